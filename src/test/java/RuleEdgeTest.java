/**
 * Sections 2 SIDES and 3 A TICK and promises 35 to 49: a test for each sentence that names an edge; the sentence stands
 * above it.
 */
public final class RuleEdgeTest {
    private static final Class<?> ISE = IllegalStateException.class;
    private static final String FIVE = "period moves 0 time 5;";

    private RuleEdgeTest() {
    }

    public static void main(String[] args) {
        aNewGame();
        atFirst();
        ticksOnlyWhileRunning();
        thinkNotGreaterThanTheDelay();
        delayOf0AndOf999();
        leftOf1AndOf0();
        extraPeriodsOnlyWith0Moves();
        extraPeriodsOneByOne();
        flagFallsBehindTheLastExtra();
        withoutClaimsOverAtOnce();
        drawIfTheOtherSideIsBare();
        withClaimsTheGameGoesOn();
        gainsOfAFallenFlag();
        gainsInAnExtraPeriod();
        gainsOfBonusAndBack();
        movesOfThePeriod();
        timeOfThePeriodUnlessTheFlagFell();
        thinkAndLostAreAnew();
        sealingAtTheLengthOfTheSession();
        openingASealedMove();
        tickOf1AndOf9999();
        claimOfFlags();
        resignInEachState();
        giveDownTo1();
        bareOrNot();
        claimsOrNot();
        valueOfAPeriod();
        swapInItsStates();
        swapOfEqualsAndOfFlags();
        Check.end("RuleEdgeTest");
    }

    private static void side(String what, GameClock clock, int side, int... due) {
        for (int i = 0; i < due.length; i++) {
            Check.same(what + ", side(" + side + ", " + i + ")", clock.side(side, i), due[i]);
        }
    }

    // Before the first successful load() there is one period with 0 moves and 3000 ticks, and nothing else.
    private static void aNewGame() {
        for (String text : new String[] {"", "x", "period moves 1 time 1"}) {
            GameClock clock = new GameClock();
            Check.load(clock, text);
            Check.same("one period", clock.property(2), 1);
            int[] due = {0, 3000, 0, 0, 0};
            for (int what = 0; what < due.length; what++) {
                Check.same("the period's " + what, clock.period(0, what), due[what]);
            }
            Check.same("no extra periods", clock.property(3) + clock.property(4), 0);
            Check.same("no session", clock.property(5), -1);
            Check.same("no claims", clock.property(10), 0);
            side("white", clock, 0, 3000, 0, 0, 0, 0, 0, 0, 0, 0, 0, 0, -1);
            side("black", clock, 1, 3000, 0, 0, 0, 0, 0, 0, 0, 0, 0, 0, -1);
        }
        GameClock clock = new GameClock();
        clock.start();
        Check.same("one tick ahead of the fall", clock.tick(2999), 1);
        Check.same("not over", clock.property(0), 1);
        clock.tick(1);
        Check.same("over", clock.property(0), 4);
    }

    // At first each side is in period 0, has left the time of that (white or black more, by hand), and no moves. .. the
    // side to move, at first white. THE STATE is 0 not begun
    private static void atFirst() {
        GameClock clock = Check.loaded("period moves 60 time 99999;period moves 1 time 7;extra 9 time 3;"
                + "hand white 9999;");
        side("white", clock, 0, 109998, 0, 0, 0, 9, 0, 0, 0, 0, 0, 0, 60);
        side("black", clock, 1, 99999, 0, 0, 0, 9, 0, 0, 0, 0, 0, 0, 60);
        Check.same("7 the side to move", clock.property(1), 0);
        Check.same("7 the state", clock.property(0), 0);
        Check.same("7 no result", clock.property(11), -1);
        Check.same("7 no flag", clock.property(9), -1);
        Check.same("7 the time", clock.property(7) + clock.property(6), 0);
        clock = Check.loaded("period moves 1 time 1;hand black 1;");
        side("white", clock, 0, 1, 0, 0, 0, 0, 0, 0, 0, 0, 0, 0, 1);
        side("black", clock, 1, 2, 0, 0, 0, 0, 0, 0, 0, 0, 0, 0, 1);
    }

    // In another state a tick changes nothing.
    private static void ticksOnlyWhileRunning() {
        for (int state : new int[] {0, 2, 3, 4}) {
            for (int ticks : new int[] {1, 9999}) {
                GameClock clock = in(state);
                int[] before = numbers(clock);
                Check.same("36 what is left", clock.tick(ticks), clock.side(0, 0));
                int[] behind = numbers(clock);
                for (int i = 0; i < before.length; i++) {
                    Check.same("36 in the state " + state + " " + i, behind[i], before[i]);
                }
            }
        }
        GameClock clock = in(1);
        clock.tick(1);
        Check.same("36 running, the time", clock.property(7), 8);
        Check.same("36 running, the session", clock.property(6), 8);
        Check.same("36 running, the think", clock.side(0, 6), 8);
        Check.same("36 running, what is left", clock.side(0, 0), 42);
    }

    /** White has thought for 7 ticks, if the game has begun. */
    private static GameClock in(int state) {
        GameClock clock = Check.loaded("period moves 2 time 50 bonus 3;session 7;");
        if (state != 0) {
            clock.start();
            clock.tick(7);
        }
        if (state == 2) {
            clock.pause();
        } else if (state == 3) {
            clock.seal();
        } else if (state == 4) {
            clock.resign(1);
        }
        Check.same("the state", clock.property(0), state);
        return clock;
    }

    private static int[] numbers(GameClock clock) {
        int[] numbers = new int[36];
        for (int what = 0; what < 12; what++) {
            numbers[what] = clock.property(what);
            numbers[12 + what] = clock.side(0, what);
            numbers[24 + what] = clock.side(1, what);
        }
        return numbers;
    }

    // If its think is not greater than the delay of its period .. nothing else happens.
    private static void thinkNotGreaterThanTheDelay() {
        GameClock clock = Check.begun("period moves 1 time 20 delay 4;period moves 0 time 9 delay 2;");
        int[] left = {20, 20, 20, 20, 19, 18, 17};
        for (int i = 0; i < left.length; i++) {
            Check.same("36 tick " + (i + 1), clock.tick(1), left[i]);
            Check.same("9 think", clock.side(0, 6), i + 1);
            Check.same("9 lost", clock.side(0, 7), 20 - left[i]);
            Check.same("12 delayLeft", clock.delayLeft(0), Math.max(0, 3 - i));
            Check.same("7 the time", clock.property(7), i + 1);
        }
        clock.move();
        clock.move();
        Check.same("36 by the delay of the next period", clock.tick(2), 26);
        Check.same("36 and behind it", clock.tick(1), 25);
        for (int ticks = 1; ticks <= 8; ticks++) {
            clock = Check.begun("period moves 1 time 20 delay 4;");
            Check.same("36 at once " + ticks, clock.tick(ticks), 20 - Math.max(0, ticks - 4));
        }
        // the delay is that of the period as it is when the tick comes
        clock = Check.begun("period moves 0 time 20 delay 4;");
        clock.tick(6);
        clock.setPeriod(0, 3, 6);
        Check.same("36 the 7th tick behind a delay of 6", clock.tick(1), 17);
        clock.setPeriod(0, 3, 8);
        Check.same("36 the 8th tick in a delay of 8", clock.tick(1), 17);
        clock.setPeriod(0, 3, 0);
        Check.same("36 the 9th tick without a delay", clock.tick(1), 16);
    }

    private static void delayOf0AndOf999() {
        GameClock clock = Check.begun("period moves 0 time 3 delay 999;");
        Check.same("36 in a delay of 999", clock.tick(999), 3);
        Check.same("12 none is left", clock.delayLeft(0), 0);
        Check.same("36 behind it", clock.tick(1), 2);
        Check.same("36 the fall", clock.tick(2), 0);
        Check.same("7 over", clock.property(0), 4);
        clock = Check.begun("period moves 0 time 3;");
        Check.same("12 no delay", clock.delayLeft(0), 0);
        Check.same("36 the first tick counts", clock.tick(1), 2);
    }

    // .. or it has left 0, nothing else happens. Otherwise it has left 1 less .. If it has left 0 then:
    private static void leftOf1AndOf0() {
        GameClock clock = Check.begun("period moves 0 time 1 delay 1;claims;");
        Check.same("36 in the delay", clock.tick(1), 1);
        Check.same("9 no flag", clock.side(0, 8), 0);
        Check.same("36 the last tick", clock.tick(1), 0);
        side("fallen", clock, 0, 0, 0, 0, 0, 0, 0, 2, 1, 1, 0, 2, -1);
        Check.same("36 its clock stays at 0", clock.tick(1), 0);
        side("time goes on", clock, 0, 0, 0, 0, 0, 0, 0, 3, 1, 1, 0, 3, -1);
        Check.same("36 its clock stays at 0", clock.tick(9999), 0);
        side("time goes on", clock, 0, 0, 0, 0, 0, 0, 0, 10002, 1, 1, 0, 10002, -1);
        Check.same("7 the time", clock.property(7), 10002);
        Check.same("29 spent", clock.spent(0, 0), 1);
    }

    // if the moves of its period are 0, and it has extra periods left
    private static void extraPeriodsOnlyWith0Moves() {
        GameClock clock = Check.begun("period moves 1 time 5;period moves 0 time 5;extra 1 time 3;claims;");
        clock.tick(5);
        side("period 0", clock, 0, 0, 0, 0, 0, 1, 0, 5, 5, 1, 0, 5, 1);
        clock.move();
        Check.moveAfter(clock, 1);
        clock.move();
        side("black in period 1", clock, 1, 9, 1, 1, 0, 1, 0, 0, 0, 0, 0, 1, -1);
        clock.tick(9);
        side("black in its extra period", clock, 1, 3, 1, 1, 0, 0, 1, 9, 9, 0, 0, 10, -1);
        Check.same("11 up to the fall", clock.flagIn(1), 3);
    }

    // one less is left, it is in an extra one, and has left their time
    private static void extraPeriodsOneByOne() {
        GameClock clock = Check.begun("period moves 0 time 2;extra 9 time 1;");
        Check.same("36 ahead of the first", clock.tick(1), 1);
        side("not in an extra one", clock, 0, 1, 0, 0, 0, 9, 0, 1, 1, 0, 0, 1, -1);
        for (int extras = 8; extras >= 0; extras--) {
            Check.same("36 the next one", clock.tick(1), 1);
            side("in an extra one", clock, 0, 1, 0, 0, 0, extras, 1, 10 - extras, 10 - extras, 0, 0, 10 - extras, -1);
            Check.same("11 up to the fall", clock.flagIn(0), extras + 1);
        }
        Check.same("7 running still", clock.property(0), 1);
        Check.same("36 the fall", clock.tick(1), 0);
        Check.same("7 over", clock.property(0), 4);
        Check.same("9 still in an extra one", clock.side(0, 5), 1);
        for (int ticks = 2; ticks <= 11; ticks++) {
            clock = Check.begun("period moves 0 time 2;extra 9 time 1;");
            Check.same("36 at once", clock.tick(ticks), ticks < 11 ? 1 : 0);
            Check.same("9 extra periods left", clock.side(0, 4), Math.max(0, 10 - ticks));
            Check.same("9 the flag", clock.side(0, 8), ticks < 11 ? 0 : 1);
        }
    }

    // otherwise its flag falls
    private static void flagFallsBehindTheLastExtra() {
        GameClock clock = Check.begun("period moves 0 time 5 delay 2;extra 1 time 3;claims;");
        Check.same("36 the last tick of all", clock.tick(9), 1);
        Check.same("9 no flag", clock.side(0, 8), 0);
        Check.same("36 the fall", clock.tick(1), 0);
        side("fallen", clock, 0, 0, 0, 0, 0, 0, 1, 10, 8, 1, 0, 10, -1);
        Check.same("7 the first flag", clock.property(9), 0);
    }

    // Without claims the game is over: the other side won. (THE RESULT .. 0 white won, 1 black won, 2 a draw.)
    private static void withoutClaimsOverAtOnce() {
        GameClock clock = Check.begun(FIVE);
        clock.tick(5);
        Check.same("7 over", clock.property(0), 4);
        Check.same("7 black won", clock.property(11), 1);
        Check.same("7 the time of the fall", clock.property(7), 5);
        clock = Check.begun(FIVE);
        clock.tick(9999);
        Check.same("7 no tick behind the fall", clock.property(7) + clock.property(6), 10);
        Check.same("9 nor for the side", clock.side(0, 6) + clock.side(0, 10), 10);
        Check.raises("37 no move any more", ISE, over(clock)::move);
        clock = Check.begun(FIVE);
        clock.move();
        clock.tick(6);
        Check.same("7 white won", clock.property(11), 0);
        Check.same("7 black's flag", clock.property(9), 1);
    }

    private static GameClock over(GameClock clock) {
        Check.same("7 over", clock.property(0), 4);
        return clock;
    }

    // it is a draw if the other side is bare
    private static void drawIfTheOtherSideIsBare() {
        int[] due = {1, 1, 2, 2};
        for (int bare = 0; bare < 4; bare++) {
            GameClock clock = Check.begun(FIVE);
            clock.setBare(0, (bare & 1) == 1);
            clock.setBare(1, (bare & 2) == 2);
            clock.tick(5);
            Check.same("36 bare " + bare, clock.property(11), due[bare]);
            clock = Check.begun(FIVE);
            clock.setBare(1, (bare & 1) == 1);
            clock.setBare(0, (bare & 2) == 2);
            clock.move();
            clock.tick(5);
            Check.same("36 black falls, bare " + bare, clock.property(11), due[bare] == 1 ? 0 : 2);
        }
    }

    // flags that fall and are claimed: with claims the game goes on, and the first flag that fell stays the first
    private static void withClaimsTheGameGoesOn() {
        GameClock clock = Check.begun(FIVE + "claims;");
        Check.same("7 no flag", clock.property(9), -1);
        clock.move();
        clock.tick(5);
        Check.same("7 running", clock.property(0), 1);
        Check.same("7 black's", clock.property(9), 1);
        clock.move();
        clock.tick(5);
        Check.same("7 running", clock.property(0), 1);
        Check.same("7 still black's", clock.property(9), 1);
        Check.same("7 no result", clock.property(11), -1);
        side("white", clock, 0, 0, 1, 0, 1, 0, 0, 5, 5, 1, 0, 5, -1);
        side("black", clock, 1, 0, 1, 0, 1, 0, 0, 0, 0, 1, 0, 5, -1);
    }

    // GAINS are, if its flag fell, nothing
    private static void gainsOfAFallenFlag() {
        GameClock clock = Check.begun("period moves 0 time 5 bonus 7 back 9;claims;");
        clock.tick(5);
        Check.same("37 nothing", clock.move(), 0);
        Check.same("10 in the log", clock.logged(0, 3) + clock.logged(0, 4), 0);
        Check.moveAfter(clock, 4);
        Check.same("37 nothing again", clock.move(), 0);
        clock = Check.begun("period moves 0 time 5 bonus 7 back 9;extra 1 time 2;claims;");
        clock.tick(7);
        Check.same("37 nothing, in an extra period", clock.move(), 0);
        clock = Check.begun("period moves 0 time 5 bonus 7 back 9;claims;");
        clock.tick(4);
        Check.same("37 one tick ahead of the fall", clock.move(), 11);
    }

    // if it is in an extra period, what lets it have left the time of these (below 0, if it has left more)
    private static void gainsInAnExtraPeriod() {
        int[] given = {0, 1, 2, 3, 9999};
        int[] due = {2, 1, 0, -1, -9997};
        for (int i = 0; i < given.length; i++) {
            GameClock clock = Check.begun("period moves 0 time 5 bonus 7 back 9;extra 2 time 8;");
            clock.tick(7);
            clock.give(0, given[i]);
            Check.same("37 gains with " + given[i], clock.move(), due[i]);
            Check.same("9 the time of an extra period", clock.side(0, 0), 8);
            Check.same("10 gains", clock.logged(0, 3), due[i]);
            Check.same("10 left", clock.logged(0, 4), 8);
            Check.same("27 gained", clock.gained(0), due[i]);
        }
        GameClock clock = Check.begun("period moves 0 time 5 bonus 7 back 9;extra 2 time 8;");
        clock.tick(4);
        Check.same("37 not in one yet", clock.move(), 11);
    }

    // otherwise the bonus of its period, and what it lost in this move, but at most the back of its period
    private static void gainsOfBonusAndBack() {
        for (int ticks = 1; ticks <= 9; ticks++) {
            GameClock clock = Check.begun("period moves 0 time 50 bonus 3 delay 2 back 4;");
            clock.tick(ticks);
            int lost = Math.max(0, ticks - 2);
            Check.same("37 lost " + lost, clock.move(), 3 + Math.min(lost, 4));
            Check.same("10 lost", clock.logged(0, 2), lost);
            Check.same("9 left", clock.side(0, 0), 50 - lost + 3 + Math.min(lost, 4));
        }
        GameClock clock = Check.begun("period moves 0 time 5000 bonus 999 back 999;");
        Check.same("37 at once", clock.move(), 999);
        Check.same("37 998 lost", Check.moveAfter(clock, 998), 1997);
        Check.same("37 999 lost", Check.moveAfter(clock, 999), 1998);
        Check.same("37 1000 lost", Check.moveAfter(clock, 1000), 1998);
        clock = Check.begun("period moves 0 time 5;");
        Check.same("37 neither bonus nor back", Check.moveAfter(clock, 4), 0);
    }

    // If those in its period are as many as the period tells (and that is not 0), the next period begins for it
    private static void movesOfThePeriod() {
        GameClock clock = Check.begun("period moves 1 time 5;period moves 2 time 6;period moves 0 time 7;");
        int[] period = {0, 1, 1, 2, 2, 2};
        int[] inPeriod = {0, 0, 1, 0, 1, 2};
        int[] toEnd = {1, 2, 1, -1, -1, -1};
        int[] left = {5, 11, 11, 18, 18, 18};
        for (int moves = 0; moves < period.length; moves++) {
            for (int one = 0; one < 2; one++) {
                Check.same("9 moves", clock.side(one, 1), moves);
                Check.same("9 period", clock.side(one, 2), period[moves]);
                Check.same("9 moves in it", clock.side(one, 3), inPeriod[moves]);
                Check.same("9 moves to its end", clock.side(one, 11), toEnd[moves]);
                Check.same("9 left", clock.side(one, 0), left[moves]);
                Check.same("28 finished", clock.finished(one), period[moves]);
            }
            clock.move();
            Check.same("9 the other side stays", clock.side(1, 1), moves);
            clock.move();
        }
        clock = Check.begun(FIVE);
        for (int moves = 1; moves <= 70; moves++) {
            clock.move();
            clock.move();
            Check.same("9 moves in it, without an end", clock.side(0, 3), moves);
        }
        Check.same("9 left", clock.side(0, 0), 5);
        Check.same("28 finished none", clock.finished(0), 0);
    }

    // its moves in the period are 0, and it has left the time of that period more, unless its flag fell
    private static void timeOfThePeriodUnlessTheFlagFell() {
        GameClock clock = Check.begun("period moves 1 time 5 bonus 2;period moves 0 time 30;claims;");
        Check.same("37 gains without the time", Check.moveAfter(clock, 4), 2);
        side("white", clock, 0, 33, 1, 1, 0, 0, 0, 0, 0, 0, 0, 4, -1);
        Check.same("10 left, with the time", clock.logged(0, 4), 33);
        Check.same("37 no gains", Check.moveAfter(clock, 5), 0);
        side("black", clock, 1, 0, 1, 1, 0, 0, 0, 0, 0, 1, 0, 5, -1);
        Check.same("10 left, without the time", clock.logged(0, 4), 0);
    }

    // Its think and what it lost in this move are 0 then; the other side is to move.
    private static void thinkAndLostAreAnew() {
        GameClock clock = Check.begun("period moves 0 time 50 delay 2;");
        clock.tick(6);
        clock.move();
        side("white", clock, 0, 46, 1, 0, 1, 0, 0, 0, 0, 0, 0, 6, -1);
        Check.same("7 black is to move", clock.property(1), 1);
        clock.move();
        Check.same("7 white is to move", clock.property(1), 0);
        Check.same("36 the delay anew", clock.tick(2), 46);
        Check.same("36 and behind it", clock.tick(1), 45);
    }

    // SEALING is possible in the state 1, if there is a session, and its time so far is its length or more
    private static void sealingAtTheLengthOfTheSession() {
        for (int length : new int[] {1, 2, 30}) {
            GameClock clock = Check.begun("period moves 0 time 900;session " + length + ";");
            if (length > 1) {
                clock.tick(length - 1);
            }
            Check.same("22 one tick ahead", clock.canSeal(), false);
            Check.same("23 one tick ahead", clock.sealIn(), 1);
            Check.raises("40 one tick ahead", ISE, clock::seal);
            clock.tick(1);
            Check.same("22 at its length", clock.canSeal(), true);
            Check.same("23 at its length", clock.sealIn(), 0);
            Check.same("40 at its length", clock.seal(), 0);
            Check.same("7 adjourned", clock.property(0), 3);
            clock.undo();
            clock.tick(1);
            Check.same("22 or more", clock.canSeal(), true);
            Check.same("40 or more", clock.seal(), 0);
        }
        GameClock clock = Check.begun("period moves 0 time 99999 delay 999;session 99999;");
        for (int i = 0; i < 10; i++) {
            clock.tick(9999);
        }
        Check.same("23 of 99999", clock.sealIn(), 9);
        clock.tick(9);
        Check.same("40 of 99999", clock.seal(), 0);
        GameClock without = Check.begun("period moves 0 time 900;");
        without.tick(800);
        Check.same("22 without a session", without.canSeal(), false);
        Check.same("23 without a session", without.sealIn(), -1);
        Check.raises("40 without a session", ISE, without::seal);
    }

    // the sealed move is a move of the side to move, the time of the session is 0, and the state is 1
    private static void openingASealedMove() {
        GameClock clock = Check.begun("period moves 1 time 50 bonus 3;period moves 0 time 20;session 4;");
        Check.moveAfter(clock, 1);
        clock.tick(4);
        Check.same("40 black seals", clock.seal(), 1);
        Check.same("7 the time of the session stays", clock.property(6), 5);
        Check.same("41 the gains", clock.open(), 3);
        side("black", clock, 1, 69, 1, 1, 0, 0, 0, 0, 0, 0, 0, 4, -1);
        Check.same("7 white is to move", clock.property(1), 0);
        Check.same("7 running", clock.property(0), 1);
        Check.same("7 the session anew", clock.property(6), 0);
        Check.same("7 the time goes on", clock.property(7), 5);
        Check.same("23 the session anew", clock.sealIn(), 4);
        Check.raises("40 not at once", ISE, clock::seal);
        GameClock fallen = Check.begun(FIVE + "session 5;claims;");
        fallen.tick(5);
        fallen.seal();
        Check.same("41 no gains with a fallen flag", fallen.open(), 0);
    }

    // ticks: 1 to 9999. Returns what the side to move has left then.
    private static void tickOf1AndOf9999() {
        GameClock clock = Check.begun("period moves 0 time 99999;");
        Check.same("36 one", clock.tick(1), 99998);
        Check.same("36 9999", clock.tick(9999), 89999);
        clock.move();
        Check.same("36 of black", clock.tick(9999), 90000);
        clock.pause();
        Check.same("36 of the side to move, paused", clock.tick(9999), 90000);
        Check.same("9 white", clock.side(0, 0), 89999);
    }

    /** Flags are claimed; those of the sides told have fallen, and white is to move. */
    private static GameClock fallen(boolean white, boolean black) {
        GameClock clock = Check.begun(FIVE + "claims;");
        Check.moveAfter(clock, white ? 5 : 4);
        Check.moveAfter(clock, black ? 5 : 4);
        return clock;
    }

    // A side claims that the flag of the other one fell. If its own flag fell, too, it is a draw; otherwise it won, or
    // it is a draw, if it is bare. The game is over.
    private static void claimOfFlags() {
        for (int side = 0; side < 2; side++) {
            boolean white = side == 1;
            int claimer = side;
            GameClock clock = fallen(white, !white);
            Check.same("42 it won", clock.claim(claimer), claimer);
            Check.same("7 over", clock.property(0), 4);
            Check.same("7 the result", clock.property(11), claimer);
            Check.same("42 both fell", fallen(true, true).claim(claimer), 2);
            clock = fallen(white, !white);
            clock.setBare(claimer, true);
            Check.same("42 it is bare", clock.claim(claimer), 2);
            clock = fallen(white, !white);
            clock.setBare(1 - claimer, true);
            Check.same("42 the other one is bare", clock.claim(claimer), claimer);
            Check.refuses("42 its own flag alone", ISE, () -> fallen(white, !white), c -> c.claim(1 - claimer));
            Check.refuses("42 no flag", ISE, () -> fallen(false, false), c -> c.claim(claimer));
            Check.refuses("42 one tick ahead of a flag", ISE, () -> {
                GameClock begun = Check.begun(FIVE + "claims;");
                begun.tick(4);
                return begun;
            }, c -> c.claim(claimer));
            Check.refuses("42 over", ISE, () -> {
                GameClock ended = fallen(true, true);
                ended.resign(claimer);
                return ended;
            }, c -> c.claim(claimer));
        }
        GameClock clock = fallen(true, false);
        clock.pause();
        clock.swap();
        Check.raises("42 the flag went over", ISE, () -> clock.claim(1));
        Check.same("42 the flag went over", clock.claim(0), 0);
    }

    // A side gives the game up: the other side won. Throws IllegalStateException if the game is over
    private static void resignInEachState() {
        for (int state = 0; state <= 4; state++) {
            for (int side = 0; side < 2; side++) {
                GameClock clock = in(state);
                int one = side;
                if (state == 4) {
                    Check.raises("43 over", ISE, () -> clock.resign(one));
                    Check.same("7 the result stays", clock.property(11), 0);
                } else {
                    Check.same("43 in the state " + state, clock.resign(side), 1 - side);
                    Check.same("7 over", clock.property(0), 4);
                    Check.same("7 the result", clock.property(11), 1 - side);
                }
            }
        }
        GameClock clock = in(1);
        clock.setBare(0, true);
        clock.setBare(1, true);
        Check.same("43 bare or not", clock.resign(0), 1);
    }

    // Gives a side ticks, or takes them. .. or it would have left less than 1
    private static void giveDownTo1() {
        for (int state = 0; state <= 3; state++) {
            GameClock clock = in(state);
            int left = clock.side(0, 0);
            Check.same("44 down to 1", clock.give(0, 1 - left), 1);
            Check.raises("44 down to 0", ISE, () -> clock.give(0, -1));
            Check.raises("44 down below 0", ISE, () -> clock.give(0, -2));
            Check.raises("44 far down", ISE, () -> clock.give(0, -9999));
            Check.same("44 nothing", clock.give(0, 0), 1);
            Check.same("44 much", clock.give(0, 9999), 10000);
            Check.same("44 much back", clock.give(0, -9999), 1);
            Check.same("44 the other side stays", clock.side(1, 0), 50);
            Check.same("44 no time passes", clock.property(7), state == 0 ? 0 : 7);
            Check.same("44 no think", clock.side(0, 6), state == 0 ? 0 : 7);
            Check.same("44 nothing is lost", clock.side(0, 7), state == 0 ? 0 : 7);
        }
        GameClock clock = new GameClock();
        for (int i = 1; i <= 100; i++) {
            Check.same("44 again and again", clock.give(1, 9999), 3000 + 9999 * i);
        }
    }

    // whether it is bare from now on (it cannot win any more). Returns whether it was before.
    private static void bareOrNot() {
        for (int state = 0; state <= 4; state++) {
            for (int side = 0; side < 2; side++) {
                GameClock clock = in(state);
                Check.same("9 not at first", clock.side(side, 9), 0);
                Check.same("45 not before", clock.setBare(side, false), false);
                Check.same("45 not before", clock.setBare(side, true), false);
                Check.same("9 bare", clock.side(side, 9), 1);
                Check.same("45 before", clock.setBare(side, true), true);
                Check.same("45 before", clock.setBare(side, false), true);
                Check.same("9 not bare", clock.side(side, 9), 0);
                Check.same("9 the other side", clock.side(1 - side, 9), 0);
            }
        }
    }

    // whether flags are claimed from now on; a flag that fell does not end the game by that
    private static void claimsOrNot() {
        GameClock clock = fallen(true, true);
        Check.same("46 before", clock.setClaims(false), true);
        Check.same("7 running", clock.property(0), 1);
        clock.tick(9999);
        Check.same("7 still running", clock.property(0), 1);
        clock.move();
        clock.tick(9999);
        Check.same("7 no flag falls twice", clock.property(0), 1);
        Check.same("7 no result", clock.property(11), -1);
        clock = fallen(true, false);
        clock.setClaims(false);
        clock.move();
        Check.same("36 the other flag ends it", clock.tick(9999), 0);
        Check.same("7 over", clock.property(0), 4);
        Check.same("7 the other side won", clock.property(11), 0);
        clock = Check.begun(FIVE);
        Check.same("46 not before", clock.setClaims(true), false);
        clock.tick(5);
        Check.same("7 from now on", clock.property(0), 1);
        Check.same("46 before", clock.setClaims(true), true);
    }

    // value: 0 to 999. Returns the previous value.
    private static void valueOfAPeriod() {
        GameClock clock = Check.begun("period moves 1 time 50 bonus 1 delay 2 back 3;period moves 0 time 50;");
        for (int period = 0; period < 2; period++) {
            for (int what = 2; what <= 4; what++) {
                Check.same("47 before", clock.setPeriod(period, what, 999), period == 0 ? what - 1 : 0);
                Check.same("47 999", clock.setPeriod(period, what, 0), 999);
                Check.same("47 0", clock.setPeriod(period, what, what * 10 + period), 0);
            }
        }
        int[][] due = {{1, 50, 20, 30, 40}, {0, 50, 21, 31, 41}};
        for (int period = 0; period < 2; period++) {
            for (int what = 0; what < 5; what++) {
                Check.same("8 period " + period + " " + what, clock.period(period, what), due[period][what]);
            }
        }
    }

    // Throws IllegalStateException if the state is not 0 or 2
    private static void swapInItsStates() {
        for (int state = 0; state <= 4; state++) {
            GameClock clock = in(state);
            if (state == 0 || state == 2) {
                int ahead = clock.ahead();
                Check.same("48 in the state " + state, clock.swap(), -ahead);
                Check.same("7 the state stays", clock.property(0), state);
            } else {
                Check.raises("48 in the state " + state, ISE, clock::swap);
            }
        }
    }

    // white gets all that black has (also its flag, and whether it is bare), and black all that white has; the side to
    // move, the log and the flag that fell first stay as they are
    private static void swapOfEqualsAndOfFlags() {
        Check.same("48 of equals", new GameClock().swap(), 0);
        GameClock clock = Check.begun("period moves 1 time 5 bonus 1;period moves 0 time 40;extra 3 time 6;claims;");
        Check.moveAfter(clock, 5);
        Check.moveAfter(clock, 3);
        clock.tick(4);
        clock.setBare(1, true);
        clock.pause();
        int[] white = new int[12];
        int[] black = new int[12];
        for (int what = 0; what < 12; what++) {
            white[what] = clock.side(0, what);
            black[what] = clock.side(1, what);
        }
        Check.same("48 ahead", clock.swap(), 43);
        side("white has all of black", clock, 0, black);
        side("black has all of white", clock, 1, white);
        Check.same("29 spent", clock.spent(0, 0), 3);
        Check.same("29 spent", clock.spent(1, 0), 5);
        Check.same("7 the side to move", clock.property(1), 0);
        Check.same("7 the first flag", clock.property(9), 0);
        Check.same("10 the log", clock.logged(1, 0), 0);
        clock.proceed();
        // white has 43 left now, and three extra periods
        Check.same("11 up to the fall", clock.flagIn(0), 43 + 18);
        Check.same("37 white's move", clock.move(), 0);
        Check.same("9 the think that went over", clock.side(1, 6), 4);
        Check.same("37 black's move", clock.move(), 0);
        Check.same("10 its think", clock.logged(0, 1), 4);
    }
}
