import java.lang.reflect.InvocationTargetException;
import java.lang.reflect.Method;
import java.util.ArrayList;
import java.util.Arrays;
import java.util.Comparator;
import java.util.List;
import java.util.Random;

/** Long runs of calls by a fixed seed, on GameClock and on the Model: each answer has to be the same. */
public final class ModelTest {
    private static final int RUNS = 2500;
    private static final int CALLS = 460;

    private final Random random = new Random(20261119);
    /** Whether this run is one long game with much time, and not one of falling flags. */
    private boolean calm;
    private final List<Method> clockMethods = new ArrayList<>();
    private final List<Method> modelMethods = new ArrayList<>();

    private ModelTest() throws NoSuchMethodException {
        for (Method method : GameClock.class.getDeclaredMethods()) {
            if (java.lang.reflect.Modifier.isPublic(method.getModifiers())) {
                clockMethods.add(method);
            }
        }
        clockMethods.sort(Comparator.comparing(Method::getName));
        for (Method method : clockMethods) {
            modelMethods.add(Model.class.getMethod(method.getName(), method.getParameterTypes()));
        }
    }

    public static void main(String[] args) throws ReflectiveOperationException {
        ModelTest test = new ModelTest();
        for (int run = 0; run < RUNS; run++) {
            if (!test.run(run)) {
                break;
            }
        }
        Check.end("ModelTest");
    }

    private boolean run(int run) throws ReflectiveOperationException {
        GameClock clock = new GameClock();
        Model model = new Model();
        StringBuilder story = new StringBuilder();
        int calls = 0;
        calm = run % 3 == 0;
        if (random.nextInt(20) > 0) {
            calls = feed(clock, model, run % 4 == 0 ? spoiledText() : text(), story);
            if (!same("load", clock, model, story)) {
                return false;
            }
        }
        if (random.nextInt(8) > 0) {
            same("start", clock, model, story);
        }
        while (calls < CALLS) {
            calls++;
            if (random.nextInt(calm ? 1000 : 150) == 0) {
                calls += feed(clock, model, random.nextBoolean() ? text() : spoiledText(), story);
                if (!same("load", clock, model, story) || !same("start", clock, model, story)) {
                    return false;
                }
                continue;
            }
            if (model.property(0) == 1 && random.nextInt(80) == 0) {
                calls += 21;
                if (!bothThink(clock, model, story)) {
                    return false;
                }
                continue;
            }
            if (!same(nextName(model.property(0)), clock, model, story)) {
                return false;
            }
        }
        return true;
    }

    /** Both sides get a think, which is seldom by itself, and are asked what would be at paces about it. */
    private boolean bothThink(GameClock clock, Model model, StringBuilder story)
            throws ReflectiveOperationException {
        int think = 1 + random.nextInt(12);
        int other = random.nextBoolean() ? think : 1 + random.nextInt(12);
        boolean same = same("tick", clock, model, story, think) && same("pause", clock, model, story)
                && same("swap", clock, model, story) && same("proceed", clock, model, story)
                && same("tick", clock, model, story, other);
        for (int i = 0; i < 4 && same; i++) {
            int white = i == 0 ? 1 : 1 + random.nextInt(14);
            int black = i == 0 ? 1 : 1 + random.nextInt(14);
            int ticks = i % 2 == 0 ? 9999 - random.nextInt(2) : 1 + random.nextInt(50);
            same = same("ends", clock, model, story, white, black)
                    && same("endsAfter", clock, model, story, white, black)
                    && same("movesIn", clock, model, story, white, black, ticks)
                    && same("aheadAfter", clock, model, story, white, black, random.nextInt(i % 2 == 0 ? 401 : 6));
        }
        return same;
    }

    /** Moves and ticks most of all, and a way out of each state, so that games go on. */
    private String nextName(int state) {
        if (state != 1 && random.nextInt(calm ? 3 : 6) == 0) {
            return state == 0 ? "start" : state == 2 ? "proceed" : state == 3 ? "open" : "undo";
        }
        if ((state == 0 || state == 2) && random.nextInt(8) == 0) {
            return "swap";
        }
        int die = random.nextInt(100);
        if (die < (calm ? 35 : 16)) {
            return "move";
        }
        if (die < (calm ? 70 : 32)) {
            return "tick";
        }
        Method method = clockMethods.get(random.nextInt(clockMethods.size()));
        String name = method.getName();
        if (name.equals("append") || name.equals("truncate") || name.equals("load")) {
            return "outputByte";
        }
        if (name.equals("resign") && random.nextInt(10) > 0) {
            return "undoCount";
        }
        // searches that try each value are dear in the model
        if ((name.equals("needs") || name.equals("paceFor") || name.equals("pace")) && random.nextInt(4) > 0) {
            return "side";
        }
        return name;
    }

    /** Compares a call with these values, or with values of its own choice if there are none. */
    private boolean same(String name, GameClock clock, Model model, StringBuilder story, Object... told)
            throws ReflectiveOperationException {
        int i = 0;
        while (!clockMethods.get(i).getName().equals(name)) {
            i++;
        }
        Object[] values = told.length > 0 ? told : values(clockMethods.get(i), model);
        String got = answer(clockMethods.get(i), clock, values);
        String due = answer(modelMethods.get(i), model, values);
        story.append(name).append(Arrays.toString(values)).append(" -> ").append(got).append('\n');
        Check.same(got.equals(due) ? name : story.toString() + name, got, due);
        return got.equals(due);
    }

    private static String answer(Method method, Object on, Object[] values) throws ReflectiveOperationException {
        try {
            return String.valueOf(method.invoke(on, values));
        } catch (InvocationTargetException e) {
            return e.getCause().getClass().getName();
        }
    }

    private Object[] values(Method method, Model model) {
        Class<?>[] kinds = method.getParameterTypes();
        Object[] values = new Object[kinds.length];
        for (int i = 0; i < kinds.length; i++) {
            values[i] = kinds[i] == boolean.class ? (Object) random.nextBoolean() : value(method.getName(), i, model);
        }
        return values;
    }

    private Integer value(String name, int i, Model model) {
        switch (name) {
            case "property":
            case "side":
                return i == 0 && name.equals("side") ? small(2) : small(12);
            case "period":
                return small(i == 0 ? model.property(2) : 5);
            case "setPeriod":
                return i == 0 ? small(model.property(2)) : i == 1 ? small(5) : ticks(999);
            case "logged":
                return i == 0 ? small(random.nextInt(10) == 0 ? 41 : 8) : small(6);
            case "spent":
                return small(i == 0 ? 2 : model.property(2));
            case "give":
                return i == 0 ? small(2) : given(model);
            case "ends":
            case "endsAfter":
            case "tick":
                return ticks(model);
            case "movesIn":
                return i == 2 && random.nextBoolean() ? Integer.valueOf(1 + random.nextInt(9999)) : ticks(model);
            case "aheadAfter":
                return i == 2 ? ticks(400) : ticks(model);
            case "paceFor":
                return i == 0 ? small(2) : ticks(200);
            case "needs":
                return i == 0 ? small(2) : i == 1 ? ticks(200) : ticks(model);
            case "lasts":
            case "leftIn":
            case "within":
                return i == 0 ? small(2) : ticks(model);
            case "outputByte":
                return random.nextInt(40) - 1;
            default:
                return small(2);
        }
    }

    /** Ticks as below, now and then so many that an edge of the game as it is comes near. */
    private Integer ticks(Model model) {
        return random.nextInt(5) == 0 ? edge(model) : ticks(9999);
    }

    /** Up to a flag, to the end of a delay or of a session, the think, in the moves of a period; or one beside it. */
    private int edge(Model model) {
        int side = random.nextInt(2);
        int moves = Math.max(1, model.side(side, 11));
        int[] edges = {model.flagIn(side), model.side(side, 0), model.side(side, 0) / moves, model.delayLeft(side),
            model.sealIn(), model.side(side, 6), model.period(model.side(side, 2), 3)};
        return edges[random.nextInt(edges.length)] + random.nextInt(3) - 1;
    }

    /** Ticks to give, or to take down to about 1. */
    private Integer given(Model model) {
        if (random.nextInt(4) == 0) {
            return random.nextInt(3) - model.side(random.nextInt(2), 0);
        }
        return random.nextBoolean() ? ticks(9999) : -ticks(9999);
    }

    /** 0 to most - 1, seldom a number beside them. */
    private int small(int most) {
        int die = random.nextInt(40);
        return die == 0 ? -1 : die == 1 ? most : die == 2 ? Integer.MIN_VALUE : random.nextInt(most);
    }

    /** Few ticks mostly, now and then many, the ends of the range and numbers beside it. */
    private int ticks(int most) {
        int die = random.nextInt(60);
        if (die == 0) {
            return -1;
        }
        if (die < 3) {
            return 0;
        }
        if (die == 3) {
            return most + 1;
        }
        if (die == 4) {
            return most;
        }
        if (die == 5) {
            return random.nextInt(most + 1);
        }
        return 1 + random.nextInt(die < (calm ? 40 : 20) ? 5 : die < 50 ? 30 : 150);
    }

    private String text() {
        StringBuilder text = new StringBuilder();
        int periods = 1 + random.nextInt(5);
        for (int i = 0; i < periods; i++) {
            int most = random.nextInt(12) == 0 ? 60 : 5;
            int moves = i == periods - 1 && random.nextBoolean() ? 0 : 1 + random.nextInt(most);
            text.append("period moves ").append(moves).append(" time ").append(time());
            option(text, "bonus");
            option(text, "delay");
            option(text, "back");
            text.append(';');
            if (i == 0 && random.nextInt(9) == 0) {
                text.append("claims;\n");
            }
        }
        String soFar = text.toString();
        if (random.nextBoolean()) {
            text.append("extra ").append(1 + random.nextInt(random.nextInt(3) == 0 ? 9 : 3))
                    .append(" time ").append(time() / 3 + 1).append("; ");
        }
        if (random.nextBoolean()) {
            text.append("session ").append(1 + random.nextInt(200)).append(';');
        }
        if (random.nextInt(3) == 0) {
            text.append("hand ").append(random.nextBoolean() ? "white " : "black\n").append(time()).append(';');
        }
        if (random.nextInt(3) == 0 && !soFar.contains("claims")) {
            text.append("claims;");
        }
        return text.length() > 400 ? text() : text.toString();
    }

    private int time() {
        return random.nextInt(calm ? 2 : 12) == 0 ? 1 + random.nextInt(9000) : 1 + random.nextInt(150);
    }

    private void option(StringBuilder text, String word) {
        if (random.nextInt(3) > 0) {
            text.append(' ').append(word).append(' ').append(random.nextInt(random.nextInt(10) == 0 ? 999 : 12));
        }
    }

    /** A text with one or two tokens or bytes more, less or other. */
    private String spoiledText() {
        String[] spoils = {"period", "moves", "time", "bonus", "delay", "back", "extra", "session", "hand", "white",
            "black", "claims", ";", "0", "1", "61", "1000", "10000", "100000", "99999999999", "x", "\u00ff", "\u0000",
            " ", "\n", "A", "claims;", "period moves 1 time 1;", "session 3;", "extra 1 time 1;", "hand white 1;"};
        String text = text();
        for (int i = 0; i <= random.nextInt(2); i++) {
            int at = random.nextInt(text.length() + 1);
            if (random.nextBoolean()) {
                at = text.lastIndexOf(';', at) + 1;
            }
            int to = random.nextBoolean() ? at : Math.min(text.length(), at + random.nextInt(3) * random.nextInt(4));
            String spoil = random.nextInt(4) == 0 ? "" : " " + spoils[random.nextInt(spoils.length)] + " ";
            text = text.substring(0, at) + spoil + text.substring(to);
        }
        return text.length() > 400 ? spoiledText() : text;
    }

    private int feed(GameClock clock, Model model, String text, StringBuilder story) {
        story.append("text ").append(text).append('\n');
        Check.feed(clock, text);
        byte[] bytes = text.getBytes(java.nio.charset.StandardCharsets.ISO_8859_1);
        int length = 0;
        for (int i = 0; i < bytes.length; i += 20) {
            int[] words = new int[5];
            for (int k = 0; k < 20; k++) {
                words[k / 4] = words[k / 4] << 8 | (i + k < bytes.length ? bytes[i + k] & 255 : ' ');
            }
            length = model.append(words[0], words[1], words[2], words[3], words[4]);
        }
        if (length > 0) {
            model.truncate(bytes.length);
        }
        return length / 20 + 2;
    }
}
