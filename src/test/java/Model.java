import java.math.BigInteger;
import java.nio.charset.StandardCharsets;
import java.util.ArrayDeque;
import java.util.ArrayList;
import java.util.Deque;
import java.util.List;
import java.util.NoSuchElementException;
import java.util.regex.Matcher;
import java.util.regex.Pattern;

/**
 * The document once more, in the plainest way: one tick after the other, copies of everything, searches that try
 * each value. ModelTest compares GameClock with it. Its methods are called by their names.
 */
public final class Model {
    /** What one side has. */
    static final class Half {
        int left;
        int moves;
        int period;
        int inPeriod;
        int extras;
        boolean inExtra;
        int think;
        int lost;
        boolean fell;
        boolean bare;
        int ran;
        int finished;
        int[] spent = new int[5];

        Half copy() {
            Half h = new Half();
            h.left = left;
            h.moves = moves;
            h.period = period;
            h.inPeriod = inPeriod;
            h.extras = extras;
            h.inExtra = inExtra;
            h.think = think;
            h.lost = lost;
            h.fell = fell;
            h.bare = bare;
            h.ran = ran;
            h.finished = finished;
            h.spent = spent.clone();
            return h;
        }
    }

    /** All that undo() restores. */
    static final class Game {
        List<int[]> periods = new ArrayList<>();
        int extras;
        int extraTime;
        int session = -1;
        boolean claims;
        Half[] halves = {new Half(), new Half()};
        int state;
        int toMove;
        int result = -1;
        int first = -1;
        int time;
        int sessionTime;
        /** The latest move first. */
        List<int[]> log = new ArrayList<>();

        Game copy() {
            Game g = new Game();
            for (int[] period : periods) {
                g.periods.add(period.clone());
            }
            g.extras = extras;
            g.extraTime = extraTime;
            g.session = session;
            g.claims = claims;
            g.halves = new Half[] {halves[0].copy(), halves[1].copy()};
            g.state = state;
            g.toMove = toMove;
            g.result = result;
            g.first = first;
            g.time = time;
            g.sessionTime = sessionTime;
            g.log = new ArrayList<>(log);
            return g;
        }

        void begin(int[] hand) {
            for (int side = 0; side < 2; side++) {
                halves[side].left = periods.get(0)[1] + hand[side];
                halves[side].extras = extras;
            }
        }

        void oneTick() {
            if (state != 1) {
                return;
            }
            Half h = halves[toMove];
            time++;
            sessionTime++;
            h.think++;
            h.ran++;
            if (h.think <= periods.get(h.period)[3] || h.left == 0) {
                return;
            }
            h.left--;
            h.lost++;
            h.spent[h.period]++;
            if (h.left == 0) {
                runOut(h);
            }
        }

        private void runOut(Half h) {
            if (periods.get(h.period)[0] == 0 && h.extras > 0) {
                h.extras--;
                h.inExtra = true;
                h.left = extraTime;
                return;
            }
            h.fell = true;
            if (first == -1) {
                first = toMove;
            }
            if (!claims) {
                state = 4;
                result = halves[1 - toMove].bare ? 2 : 1 - toMove;
            }
        }

        int oneMove() {
            Half h = halves[toMove];
            int[] p = periods.get(h.period);
            int gains = h.fell ? 0 : h.inExtra ? extraTime - h.left : p[2] + (h.lost < p[4] ? h.lost : p[4]);
            h.left += gains;
            h.moves++;
            h.inPeriod++;
            if (p[0] != 0 && h.inPeriod == p[0]) {
                if (h.period + 1 < periods.size()) {
                    h.period++;
                }
                h.inPeriod = 0;
                h.finished++;
                if (!h.fell) {
                    h.left += periods.get(h.period)[1];
                }
            }
            log.add(0, new int[] {toMove, h.think, h.lost, gains, h.left, time});
            if (log.size() > 40) {
                log.remove(40);
            }
            h.think = 0;
            h.lost = 0;
            toMove = 1 - toMove;
            return gains;
        }
    }

    private final List<Integer> input = new ArrayList<>();
    private String output = "";
    private int errorCode;
    private int errorPosition = -1;
    private Game now = new Game();
    private final Deque<Game> undos = new ArrayDeque<>();
    private final Game[] slots = new Game[2];

    public Model() {
        now.periods.add(new int[] {0, 3000, 0, 0, 0});
        now.begin(new int[2]);
    }

    // ---- input

    public int append(int a, int b, int c, int d, int e) {
        state(input.size() <= 380);
        for (int word : new int[] {a, b, c, d, e}) {
            input.add(word >>> 24);
            input.add(word >>> 16 & 255);
            input.add(word >>> 8 & 255);
            input.add(word & 255);
        }
        return input.size();
    }

    public void truncate(int length) {
        argument(length >= 0 && length <= input.size());
        input.subList(length, input.size()).clear();
    }

    public int load() {
        byte[] bytes = new byte[input.size()];
        for (int i = 0; i < bytes.length; i++) {
            bytes[i] = input.get(i).byteValue();
        }
        input.clear();
        Reader reader = new Reader(new String(bytes, StandardCharsets.ISO_8859_1));
        reader.read();
        errorCode = reader.code;
        errorPosition = reader.position;
        if (errorCode != 0) {
            return -4;
        }
        remember();
        now = reader.game;
        now.begin(reader.hand);
        return now.periods.size();
    }

    /** Tokens are cut by a pattern, and each statement is held against a written form. */
    private static final class Reader {
        static final Pattern TOKEN = Pattern.compile("[a-z]+|[0-9]+|[^ \n]", Pattern.DOTALL);
        final List<String> tokens = new ArrayList<>();
        final List<Integer> offsets = new ArrayList<>();
        final Game game = new Game();
        final int[] hand = new int[2];
        final List<String> seen = new ArrayList<>();
        int next;
        int code;
        int position = -1;

        Reader(String text) {
            Matcher matcher = TOKEN.matcher(text);
            while (matcher.find()) {
                tokens.add(matcher.group());
                offsets.add(matcher.start());
            }
            tokens.add("");
            offsets.add(text.length());
        }

        void read() {
            do {
                statement();
            } while (code == 0 && !tokens.get(next).isEmpty());
        }

        void statement() {
            String word = tokens.get(next);
            boolean known = List.of("period", "extra", "session", "hand", "claims").contains(word);
            if (!known || seen.isEmpty() && !word.equals("period")) {
                error(1);
                return;
            }
            long before = seen.stream().filter(word::equals).count();
            if (before >= (word.equals("period") ? 5 : 1)) {
                error(3);
                return;
            }
            int periods = game.periods.size();
            if (word.equals("period") && periods > 0 && game.periods.get(periods - 1)[0] == 0) {
                error(4);
                return;
            }
            seen.add(word);
            next++;
            if (word.equals("period")) {
                int[] p = new int[5];
                game.periods.add(p);
                p[0] = named("moves", 0, 60);
                p[1] = named("time", 1, 99999);
                p[2] = maybe("bonus");
                p[3] = maybe("delay");
                p[4] = maybe("back");
            } else if (word.equals("extra")) {
                game.extras = number(1, 9);
                game.extraTime = named("time", 1, 9999);
            } else if (word.equals("session")) {
                game.session = number(1, 99999);
            } else if (word.equals("hand")) {
                int side = List.of("white", "black").indexOf(tokens.get(next));
                if (side < 0) {
                    error(1);
                } else {
                    next++;
                    hand[side] = number(1, 9999);
                }
            } else {
                game.claims = true;
            }
            must(";");
        }

        int maybe(String word) {
            return tokens.get(next).equals(word) ? named(word, 0, 999) : 0;
        }

        int named(String word, int least, int most) {
            must(word);
            return number(least, most);
        }

        void must(String token) {
            if (!tokens.get(next).equals(token)) {
                error(1);
            }
            if (code == 0) {
                next++;
            }
        }

        int number(int least, int most) {
            String token = tokens.get(next);
            if (!token.matches("[0-9]+")) {
                error(1);
                return 0;
            }
            BigInteger value = new BigInteger(token);
            if (value.compareTo(BigInteger.valueOf(least)) < 0 || value.compareTo(BigInteger.valueOf(most)) > 0) {
                error(2);
                return 0;
            }
            if (code == 0) {
                next++;
            }
            return value.intValue();
        }

        void error(int kind) {
            if (code == 0) {
                code = kind;
                position = offsets.get(next);
            }
        }
    }

    public int errorCode() {
        return errorCode;
    }

    public int errorPosition() {
        return errorPosition;
    }

    // ---- what can be asked

    public int property(int what) {
        argument(what >= 0 && what <= 11);
        return new int[] {now.state, now.toMove, now.periods.size(), now.extras, now.extraTime, now.session,
            now.sessionTime, now.time, now.halves[0].moves + now.halves[1].moves, now.first, now.claims ? 1 : 0,
            now.result}[what];
    }

    public int period(int period, int what) {
        index(period >= 0 && period < now.periods.size());
        argument(what >= 0 && what <= 4);
        return now.periods.get(period)[what];
    }

    private Half half(int side) {
        index(side == 0 || side == 1);
        return now.halves[side];
    }

    private int toEnd(Half h) {
        int moves = now.periods.get(h.period)[0];
        return moves == 0 ? -1 : moves - h.inPeriod;
    }

    public int side(int side, int what) {
        Half h = half(side);
        argument(what >= 0 && what <= 11);
        return new int[] {h.left, h.moves, h.period, h.inPeriod, h.extras, h.inExtra ? 1 : 0, h.think, h.lost,
            h.fell ? 1 : 0, h.bare ? 1 : 0, h.ran, toEnd(h)}[what];
    }

    public int logged(int index, int what) {
        index(index >= 0 && index < now.log.size());
        argument(what >= 0 && what <= 5);
        return now.log.get(index)[what];
    }

    public int flagIn(int side) {
        if (half(side).fell) {
            return 0;
        }
        Game g = now.copy();
        g.state = 1;
        g.toMove = side;
        g.claims = true;
        int ticks = 0;
        while (!g.halves[side].fell) {
            g.oneTick();
            ticks++;
        }
        return ticks;
    }

    public int delayLeft(int side) {
        Half h = half(side);
        int delay = now.periods.get(h.period)[3];
        return h.think >= delay ? 0 : delay - h.think;
    }

    private static int[] face(Half h) {
        int seconds = h.left / 10;
        if (seconds * 10 < h.left) {
            seconds++;
        }
        int hours = 0;
        int minutes = 0;
        while (seconds >= 3600) {
            seconds -= 3600;
            hours++;
        }
        while (seconds >= 60) {
            seconds -= 60;
            minutes++;
        }
        return new int[] {hours, minutes, seconds};
    }

    public int shown(int side) {
        int[] face = face(half(side));
        return 10000 * face[0] + 100 * face[1] + face[2];
    }

    public int ahead() {
        return now.halves[0].left - now.halves[1].left;
    }

    private List<int[]> movesOf(int side) {
        half(side);
        List<int[]> moves = new ArrayList<>();
        for (int[] move : now.log) {
            if (move[0] == side) {
                moves.add(move);
            }
        }
        return moves;
    }

    public int longest(int side) {
        int longest = 0;
        for (int[] move : movesOf(side)) {
            if (move[1] > longest) {
                longest = move[1];
            }
        }
        return longest;
    }

    public double meanThink(int side) {
        List<int[]> moves = movesOf(side);
        double sum = 0.0;
        for (int[] move : moves) {
            sum += move[1];
        }
        return moves.isEmpty() ? 0.0 : sum / moves.size();
    }

    public float share(int side) {
        Half h = half(side);
        return now.time == 0 ? 0.0f : (float) h.ran / (float) now.time;
    }

    public int gained(int side) {
        int sum = 0;
        for (int[] move : movesOf(side)) {
            sum += move[3];
        }
        return sum;
    }

    public int finished(int side) {
        return half(side).finished;
    }

    public int spent(int side, int period) {
        Half h = half(side);
        index(period >= 0 && period < now.periods.size());
        return h.spent[period];
    }

    public int slowest() {
        int best = -1;
        for (int i = now.log.size() - 1; i >= 0; i--) {
            if (best == -1 || now.log.get(i)[1] >= now.log.get(best)[1]) {
                best = i;
            }
        }
        return best;
    }

    public int within(int side, int ticks) {
        List<int[]> moves = movesOf(side);
        argument(ticks >= 0 && ticks <= 9999);
        int count = 0;
        for (int[] move : moves) {
            count += move[1] <= ticks ? 1 : 0;
        }
        return count;
    }

    // ---- what would be

    /** The side alone, its move anew, one tick after the other. */
    public int lasts(int side, int pace) {
        Half h = half(side);
        argument(pace >= 1 && pace <= 9999);
        if (h.fell) {
            return 0;
        }
        Game g = now.copy();
        g.claims = true;
        Half alone = g.halves[side];
        alone.think = 0;
        alone.lost = 0;
        for (int moves = 0; moves < 200; moves++) {
            g.state = 1;
            g.toMove = side;
            for (int i = 0; i < pace; i++) {
                g.oneTick();
            }
            if (alone.fell) {
                return moves;
            }
            g.oneMove();
        }
        return 200;
    }

    /** The same move by move, as fast as searches that try each value need it. */
    private boolean makes(int side, int moves, int pace, int more) {
        Half h = now.halves[side].copy();
        if (h.fell) {
            return false;
        }
        h.left += more;
        for (int i = 0; i < moves; i++) {
            int[] p = now.periods.get(h.period);
            int lost = pace > p[3] ? pace - p[3] : 0;
            h.left -= lost;
            while (h.left <= 0) {
                if (p[0] != 0 || h.extras == 0) {
                    return false;
                }
                h.extras--;
                h.inExtra = true;
                h.left += now.extraTime;
            }
            h.left = h.inExtra ? now.extraTime : h.left + p[2] + (lost < p[4] ? lost : p[4]);
            h.inPeriod++;
            if (h.inPeriod == p[0]) {
                h.period = h.period + 1 == now.periods.size() ? h.period : h.period + 1;
                h.inPeriod = 0;
                h.left += now.periods.get(h.period)[1];
            }
        }
        return true;
    }

    private int greatest(int side, int moves) {
        for (int pace = 9999; pace >= 1; pace--) {
            if (makes(side, moves, pace, 0)) {
                return pace;
            }
        }
        return -1;
    }

    public int pace(int side) {
        int moves = toEnd(half(side));
        return moves == -1 ? -1 : greatest(side, moves);
    }

    public int paceFor(int side, int moves) {
        half(side);
        argument(moves >= 1 && moves <= 200);
        return greatest(side, moves);
    }

    public int needs(int side, int moves, int pace) {
        half(side);
        argument(moves >= 1 && moves <= 200 && pace >= 1 && pace <= 9999);
        for (int more = 0; more <= 99999; more++) {
            if (makes(side, moves, pace, more)) {
                return more;
            }
        }
        return -1;
    }

    public int leftIn(int side, int ticks) {
        half(side);
        argument(ticks >= 0 && ticks <= 9999);
        Game g = now.copy();
        for (int i = 0; i < ticks; i++) {
            g.oneTick();
        }
        return g.halves[side].left;
    }

    public int overIn() {
        if (now.state != 1 || now.claims || now.halves[now.toMove].fell) {
            return -1;
        }
        Game g = now.copy();
        int ticks = 0;
        while (g.state == 1) {
            g.oneTick();
            ticks++;
        }
        return ticks;
    }

    public boolean canSeal() {
        return now.state == 1 && now.session != -1 && now.sessionTime >= now.session;
    }

    public int sealIn() {
        if (now.state != 1 || now.session == -1) {
            return -1;
        }
        return canSeal() ? 0 : now.session - now.sessionTime;
    }

    /** Both play on until a flag falls, so many moves are made or so many ticks have passed. */
    private int[] play(Game g, int white, int black, int moves, int ticks) {
        g.claims = false;
        int made = 0;
        int passed = 0;
        while (made < moves) {
            int pace = g.toMove == 0 ? white : black;
            while (g.halves[g.toMove].think < pace) {
                if (passed == ticks) {
                    return new int[] {made, -1};
                }
                g.oneTick();
                passed++;
                if (g.state == 4) {
                    return new int[] {made, g.result};
                }
            }
            g.oneMove();
            made++;
        }
        return new int[] {made, -1};
    }

    private void paces(int white, int black) {
        argument(white >= 1 && white <= 9999 && black >= 1 && black <= 9999);
    }

    public int ends(int white, int black) {
        paces(white, black);
        return now.state != 1 ? -1 : play(now.copy(), white, black, 400, Integer.MAX_VALUE)[1];
    }

    public int endsAfter(int white, int black) {
        paces(white, black);
        return now.state != 1 ? -1 : play(now.copy(), white, black, 400, Integer.MAX_VALUE)[0];
    }

    public int movesIn(int white, int black, int ticks) {
        paces(white, black);
        argument(ticks >= 1 && ticks <= 9999);
        return now.state != 1 ? -1 : play(now.copy(), white, black, Integer.MAX_VALUE, ticks)[0];
    }

    public int aheadAfter(int white, int black, int moves) {
        paces(white, black);
        argument(moves >= 0 && moves <= 400);
        if (now.state != 1) {
            return -1;
        }
        Game g = now.copy();
        play(g, white, black, moves, Integer.MAX_VALUE);
        return g.halves[0].left - g.halves[1].left;
    }

    // ---- changes

    private void remember() {
        undos.push(now.copy());
        if (undos.size() > 6) {
            undos.removeLast();
        }
    }

    private int go(int from, int to) {
        state(now.state == from);
        remember();
        now.state = to;
        return now.toMove;
    }

    public int start() {
        return go(0, 1);
    }

    public int tick(int ticks) {
        argument(ticks >= 1 && ticks <= 9999);
        remember();
        for (int i = 0; i < ticks; i++) {
            now.oneTick();
        }
        return now.halves[now.toMove].left;
    }

    public int move() {
        go(1, 1);
        return now.oneMove();
    }

    public int pause() {
        return go(1, 2);
    }

    public int proceed() {
        return go(2, 1);
    }

    public int seal() {
        state(canSeal());
        return go(1, 3);
    }

    public int open() {
        go(3, 1);
        now.sessionTime = 0;
        return now.oneMove();
    }

    public int claim(int side) {
        half(side);
        state(now.state != 4 && now.halves[1 - side].fell);
        remember();
        now.state = 4;
        now.result = now.halves[side].fell || now.halves[side].bare ? 2 : side;
        return now.result;
    }

    public int resign(int side) {
        half(side);
        state(now.state != 4);
        remember();
        now.state = 4;
        now.result = 1 - side;
        return now.result;
    }

    public int give(int side, int ticks) {
        half(side);
        argument(ticks >= -9999 && ticks <= 9999);
        state(now.state != 4 && !now.halves[side].fell && now.halves[side].left + ticks >= 1);
        remember();
        now.halves[side].left += ticks;
        return now.halves[side].left;
    }

    public boolean setBare(int side, boolean bare) {
        boolean before = half(side).bare;
        remember();
        now.halves[side].bare = bare;
        return before;
    }

    public boolean setClaims(boolean claims) {
        boolean before = now.claims;
        remember();
        now.claims = claims;
        return before;
    }

    public int setPeriod(int period, int what, int value) {
        index(period >= 0 && period < now.periods.size());
        argument(what >= 2 && what <= 4 && value >= 0 && value <= 999);
        remember();
        int before = now.periods.get(period)[what];
        now.periods.get(period)[what] = value;
        return before;
    }

    public int swap() {
        state(now.state == 0 || now.state == 2);
        remember();
        now.halves = new Half[] {now.halves[1], now.halves[0]};
        return ahead();
    }

    public int keep(int slot) {
        index(slot == 0 || slot == 1);
        slots[slot] = now.copy();
        return now.time;
    }

    public int restore(int slot) {
        index(slot == 0 || slot == 1);
        state(slots[slot] != null);
        remember();
        now = slots[slot].copy();
        return now.time;
    }

    public int undo() {
        state(!undos.isEmpty());
        now = undos.pop();
        return undos.size();
    }

    public int undoCount() {
        return undos.size();
    }

    // ---- output

    public int writeClock() {
        List<String> parts = new ArrayList<>();
        for (int side = 0; side < 2; side++) {
            Half h = now.halves[side];
            int[] face = face(h);
            parts.add(String.format("%d:%02d:%02d", face[0], face[1], face[2]) + (h.fell ? "!" : "")
                    + "+".repeat(h.extras) + (now.toMove == side ? "*" : ""));
        }
        output = String.join(" ", parts);
        return output.length();
    }

    public int writeLog() {
        List<String> parts = new ArrayList<>();
        for (int[] move : now.log) {
            if (parts.size() < 12) {
                parts.add(0, (move[0] == 0 ? "w" : "b") + move[1] + (move[3] != 0 ? "+" + move[3] : ""));
            }
        }
        output = String.join(" ", parts);
        return output.length();
    }

    public int writePeriods() {
        List<String> parts = new ArrayList<>();
        for (int[] p : now.periods) {
            parts.add((p[0] == 0 ? "r" : "" + p[0]) + "/" + p[1] + (p[2] != 0 ? "+" + p[2] : "")
                    + (p[3] != 0 ? "d" + p[3] : "") + (p[4] != 0 ? "b" + p[4] : ""));
        }
        output = String.join(" ", parts);
        return output.length();
    }

    public int outputByte(int index) {
        if (index < 0 || index >= output.length()) {
            throw new NoSuchElementException();
        }
        return output.charAt(index);
    }

    private static void index(boolean good) {
        if (!good) {
            throw new IndexOutOfBoundsException();
        }
    }

    private static void argument(boolean good) {
        if (!good) {
            throw new IllegalArgumentException();
        }
    }

    private static void state(boolean good) {
        if (!good) {
            throw new IllegalStateException();
        }
    }
}
