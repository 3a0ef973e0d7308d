/** Section 1 INPUT and promises 2 to 6: a test for each sentence that names an edge; the sentence stands above it. */
public final class TextEdgeTest {
    private static final Class<?> IAE = IllegalArgumentException.class;
    private static final Class<?> ISE = IllegalStateException.class;
    /** 22 bytes, so that what stands behind it begins at 22. */
    private static final String LAST = "period moves 0 time 5;";
    private static final String ONE = "period moves 1 time 5;";
    private static final int BLANKS = 0x20202020;

    private TextEdgeTest() {
    }

    public static void main(String[] args) {
        bufferHoldsAtMost400Bytes();
        appendPutsEachByteInItsPlace();
        appendReturnsTheNewLength();
        appendThatIsRefused();
        truncateFrom0ToTheLength();
        truncateKeepsTheFirstBytes();
        textOfOneOrMoreStatements();
        eachStatementEndsWithSemicolon();
        wordsAreRunsOfLowercaseLetters();
        numbersAreRunsOfDigitsOfAnyLength();
        eachOtherByteIsASymbol();
        spacesAndNewlinesSeparate();
        movesOfAPeriod();
        timeOfAPeriod();
        bonusDelayAndBack();
        withoutBonusDelayAndBack();
        atMostFivePeriods();
        noneBehindOneWith0Moves();
        theFirstStatementIsAPeriod();
        extraPeriods();
        session();
        hand();
        atMostOnce();
        claims();
        periodsAreNumberedFrom0();
        stopsAtTheFirstError();
        theSmallestCodeCounts();
        positionOfATokenAndOfTheEnd();
        loadEmptiesTheBuffer();
        loadReturnsThePeriods();
        loadThatFailsChangesBufferAndErrorAlone();
        loadThatSucceedsBeginsAnew();
        errorOfTheLastLoad();
        Check.end("TextEdgeTest");
    }

    private static void errs(String text, int code, int position) {
        GameClock clock = new GameClock();
        Check.same("load of " + text, Check.load(clock, text), GameClock.PARSE_ERROR);
        Check.same("errorCode of " + text, clock.errorCode(), code);
        Check.same("errorPosition of " + text, clock.errorPosition(), position);
    }

    private static GameClock reads(String text) {
        GameClock clock = new GameClock();
        Check.same("load of " + text + " is good", Check.load(clock, text) > 0, true);
        Check.same("errorCode of " + text, clock.errorCode(), 0);
        Check.same("errorPosition of " + text, clock.errorPosition(), GameClock.NONE);
        return clock;
    }

    private static GameClock holding(int length) {
        GameClock clock = new GameClock();
        for (int got = 0; got < length; got += 20) {
            clock.append(BLANKS, BLANKS, BLANKS, BLANKS, BLANKS);
        }
        clock.truncate(length);
        return clock;
    }

    // The input buffer holds at most 400 bytes.
    private static void bufferHoldsAtMost400Bytes() {
        String text = ONE + " ".repeat(371) + "claims;";
        Check.same("a text of 400 bytes", text.length(), 400);
        Check.same("its last bytes are read", reads(text).property(10), 1);
        Check.same("up to 400", holding(380).append(0, 0, 0, 0, 0), 400);
        Check.raises("up to 401", ISE, () -> holding(381).append(0, 0, 0, 0, 0));
        Check.raises("up to 420", ISE, () -> holding(400).append(0, 0, 0, 0, 0));
    }

    // Appends 20 bytes to the input buffer: the four bytes of each parameter, most significant byte first.
    private static void appendPutsEachByteInItsPlace() {
        for (int place = 0; place < 20; place++) {
            for (int sign : new int[] {1, 'A', 127, 128, 255}) {
                int[] words = {BLANKS, BLANKS, BLANKS, BLANKS, BLANKS};
                int shift = 24 - place % 4 * 8;
                words[place / 4] = words[place / 4] & ~(255 << shift) | sign << shift;
                GameClock clock = new GameClock();
                clock.append(words[0], words[1], words[2], words[3], words[4]);
                clock.load();
                Check.same("the byte " + sign + " at " + place, clock.errorPosition(), place);
            }
        }
        for (int place = 20; place < 400; place++) {
            GameClock clock = new GameClock();
            Check.load(clock, " ".repeat(place) + "!");
            Check.same("a byte at " + place, clock.errorPosition(), place);
        }
    }

    // Returns the new length of the buffer.
    private static void appendReturnsTheNewLength() {
        GameClock clock = new GameClock();
        for (int length = 20; length <= 400; length += 20) {
            Check.same("append up to " + length, clock.append(-1, Integer.MIN_VALUE, 0, Integer.MAX_VALUE, 1), length);
        }
        Check.same("behind 1 byte", holding(1).append(0, 0, 0, 0, 0), 21);
        Check.same("behind 19 bytes", holding(19).append(0, 0, 0, 0, 0), 39);
    }

    // Throws IllegalStateException if the buffer would hold more than 400 bytes
    private static void appendThatIsRefused() {
        for (int length : new int[] {381, 382, 399, 400}) {
            Check.refuses("append behind " + length, ISE, () -> holding(length), c -> c.append(1, 2, 3, 4, 5));
        }
        GameClock clock = holding(381);
        Check.raises("append behind 381", ISE, () -> clock.append(1, 2, 3, 4, 5));
        clock.truncate(380);
        Check.same("and then behind 380", clock.append(BLANKS, BLANKS, BLANKS, BLANKS, BLANKS), 400);
        clock.load();
        Check.same("none of the refused bytes stayed", clock.errorPosition(), 400);
    }

    // length: the new length, 0 to the current length; throws IllegalArgumentException if length is out of range
    private static void truncateFrom0ToTheLength() {
        for (int length : new int[] {0, 1, 20, 399, 400}) {
            GameClock clock = holding(length);
            clock.truncate(length);
            clock.truncate(0);
            clock.truncate(0);
            Check.same("cut to 0 from " + length, clock.append(0, 0, 0, 0, 0), 20);
            for (int wrong : new int[] {-1, length + 1, 401, Integer.MIN_VALUE, Integer.MAX_VALUE}) {
                Check.refuses("truncate(" + wrong + ") of " + length, IAE, () -> holding(length),
                        c -> c.truncate(wrong));
            }
        }
        Check.leavesAlone("truncate to the length", () -> holding(40), c -> c.truncate(40));
        Check.refuses("truncate(1) behind load", IAE, () -> reads(LAST), c -> c.truncate(1));
    }

    // Cuts the input buffer to its first length bytes.
    private static void truncateKeepsTheFirstBytes() {
        GameClock clock = new GameClock();
        Check.feed(clock, ONE + "claims;!");
        clock.truncate(29);
        Check.same("without the last byte", clock.load(), 1);
        Check.same("with the byte ahead of it", clock.property(10), 1);
        Check.feed(clock, ONE + "claims;!");
        clock.truncate(28);
        Check.same("one byte less", clock.load(), GameClock.PARSE_ERROR);
        Check.same("its end", clock.errorPosition(), 28);
        Check.feed(clock, ONE + "claims;!");
        clock.truncate(22);
        clock.append(BLANKS, BLANKS, BLANKS, BLANKS, BLANKS);
        Check.same("what was cut off does not come back", clock.load(), 1);
        Check.same("no claims", clock.property(10), 0);
    }

    // load() parses it as a text of one or more statements (code 1: also the end of an empty text)
    private static void textOfOneOrMoreStatements() {
        errs("", 1, 0);
        errs(" ", 1, 1);
        errs("\n\n\n", 1, 3);
        errs(" ".repeat(400), 1, 400);
        reads(LAST);
        reads(LAST + "claims;");
        reads(ONE + ONE + ONE + ONE + LAST + "claims;session 1;hand white 1;extra 1 time 1;");
    }

    // each statement ends with ';'
    private static void eachStatementEndsWithSemicolon() {
        for (String statement : new String[] {"claims", "session 5", "hand white 5", "extra 1 time 5"}) {
            reads(LAST + statement + ";");
            errs(LAST + statement, 1, 22 + statement.length());
            errs(LAST + statement + ":", 1, 22 + statement.length());
            errs(LAST + statement + "<", 1, 22 + statement.length());
            errs(LAST + statement + " claims;", 1, 23 + statement.length());
            errs(LAST + statement + ";;", 1, 23 + statement.length());
        }
        errs("period moves 0 time 5", 1, 21);
        errs(LAST + ";", 1, 22);
        for (String option : new String[] {" bonus 1", " delay 1", " back 1"}) {
            errs("period moves 0 time 5" + option, 1, 21 + option.length());
        }
    }

    // a word is a maximal run of lowercase letters a-z
    private static void wordsAreRunsOfLowercaseLetters() {
        for (int sign = 0; sign < 256; sign++) {
            String text = LAST + "claims" + (char) sign + ";";
            if (sign == ' ' || sign == '\n') {
                reads(text);
            } else if (sign >= 'a' && sign <= 'z') {
                errs(text, 1, 22);
            } else {
                errs(text, 1, sign == ';' ? 29 : 28);
            }
        }
        errs(LAST + "aclaims;", 1, 22);
        errs(LAST + "zclaims;", 1, 22);
        errs(LAST + "claim;", 1, 22);
        errs(LAST + "laims;", 1, 22);
        errs(LAST + "claIms;", 1, 22);
        errs("periodmoves 0 time 5;", 1, 0);
        reads("period moves0time5bonus1delay2back3;");
    }

    // a number is a maximal run of decimal digits, of any length
    private static void numbersAreRunsOfDigitsOfAnyLength() {
        for (int sign = 0; sign < 256; sign++) {
            String text = LAST + "session 5" + (char) sign + ";";
            if (sign == ' ' || sign == '\n') {
                Check.same("session 5", reads(text).property(5), 5);
            } else if (sign >= '0' && sign <= '9') {
                Check.same("session 5" + (char) sign, reads(text).property(5), 50 + sign - '0');
            } else {
                errs(text, 1, sign == ';' ? 32 : 31);
            }
        }
        Check.same("of 360 digits", reads(LAST + "session " + "0".repeat(359) + "7;").property(5), 7);
        errs(LAST + "session " + "9".repeat(369) + ";", 2, 30);
        errs(LAST + "session 1" + "0".repeat(360) + ";", 2, 30);
        errs(LAST + "session " + "0".repeat(360) + ";", 2, 30);
        errs(LAST + "session 5 5;", 1, 32);
    }

    // each other byte except space (32) and newline (10) is a symbol of its own
    private static void eachOtherByteIsASymbol() {
        for (int sign = 0; sign < 256; sign++) {
            boolean blank = sign == ' ' || sign == '\n';
            boolean symbol = !blank && (sign < '0' || sign > '9') && (sign < 'a' || sign > 'z');
            if (symbol) {
                errs((char) sign + LAST, 1, 0);
                errs("period moves 0" + (char) sign + "time 5;", 1, 14);
                errs(LAST + (char) sign, 1, 22);
            } else if (blank) {
                reads((char) sign + LAST);
                reads("period moves 0" + (char) sign + "time 5;");
                reads(LAST + (char) sign);
            }
        }
    }

    // Spaces and newlines only separate tokens.
    private static void spacesAndNewlinesSeparate() {
        reads("\n \n period\n\nmoves   0\n time\n5 \n ; \n claims \n;\n");
        reads("period moves 0 time 5;claims;session 5;");
        errs("per iod moves 0 time 5;", 1, 0);
        errs("period moves 0 time 5; session 1 0;", 1, 33);
        errs("period moves 0 time 5; cla\nims;", 1, 23);
    }

    private static void range(String ahead, int least, int most, String behind) {
        int at = ahead.length();
        for (int good : new int[] {least, least + 1, most - 1, most}) {
            reads(ahead + good + behind);
            reads(ahead + "000" + good + behind);
        }
        if (least > 0) {
            errs(ahead + (least - 1) + behind, 2, at);
        }
        errs(ahead + (most + 1) + behind, 2, at);
        errs(ahead + most + "0" + behind, 2, at);
        errs(ahead + "2147483647" + behind, 2, at);
        // 2 to the 32nd and to the 64th, and the least number that is good
        errs(ahead + (4294967296L + least) + behind, 2, at);
        errs(ahead + "1844674407370955161" + (6 + least) + behind, 2, at);
        errs(ahead + "-" + most + behind, 1, at);
        errs(ahead + "x" + behind, 1, at);
    }

    // its moves, 0 to 60 (0: all moves that follow)
    private static void movesOfAPeriod() {
        range("period moves ", 0, 60, " time 5;");
        Check.same("0 moves", reads(LAST).period(0, 0), 0);
        Check.same("1 move", reads(ONE).period(0, 0), 1);
        Check.same("60 moves", reads("period moves 60 time 5;").period(0, 0), 60);
        range(ONE + "period moves ", 0, 60, " time 5;");
    }

    // its time, 1 to 99999 ticks
    private static void timeOfAPeriod() {
        range("period moves 0 time ", 1, 99999, ";");
        Check.same("1 tick", reads("period moves 0 time 1;").period(0, 1), 1);
        GameClock clock = reads("period moves 0 time 99999;");
        Check.same("99999 ticks", clock.period(0, 1), 99999);
        Check.same("and left", clock.side(0, 0), 99999);
    }

    // and its bonus, delay and back, 0 to 999 each
    private static void bonusDelayAndBack() {
        String[] words = {"bonus", "delay", "back"};
        for (int i = 0; i < words.length; i++) {
            range("period moves 0 time 5 " + words[i] + " ", 0, 999, ";");
            Check.same(words[i] + " 999", reads("period moves 0 time 5 " + words[i] + " 999;").period(0, 2 + i), 999);
            Check.same(words[i] + " 0", reads("period moves 0 time 5 " + words[i] + " 0;").period(0, 2 + i), 0);
            Check.same(words[i] + " 1", reads("period moves 0 time 5 " + words[i] + " 1;").period(0, 2 + i), 1);
            errs("period moves 0 time 5 " + words[i] + " 1 " + words[i] + " 1;", 1, 25 + words[i].length());
        }
        errs("period moves 0 time 5 delay 1 bonus 1;", 1, 30);
        errs("period moves 0 time 5 back 1 bonus 1;", 1, 29);
        errs("period moves 0 time 5 back 1 delay 1;", 1, 29);
    }

    // 0 without them
    private static void withoutBonusDelayAndBack() {
        GameClock clock = new GameClock();
        Check.load(clock, "period moves 1 time 5 bonus 6 delay 7 back 8;period moves 1 time 5 bonus 6 delay 7 back 8;");
        Check.load(clock, ONE + "period moves 1 time 5 delay 9;");
        int[][] due = {{0, 0, 0}, {0, 9, 0}};
        for (int period = 0; period < 2; period++) {
            for (int i = 0; i < 3; i++) {
                Check.same("period " + period + " " + i, clock.period(period, 2 + i), due[period][i]);
            }
        }
    }

    // At most 5; code 3: the word period a 6th time
    private static void atMostFivePeriods() {
        reads(ONE + ONE + ONE + ONE + ONE);
        reads(ONE + ONE + ONE + ONE + LAST);
        errs(ONE + ONE + ONE + ONE + ONE + ONE, 3, 110);
        errs(ONE + ONE + ONE + ONE + ONE + "period", 3, 110);
        errs(ONE + ONE + ONE + ONE + ONE + "claims; period", 3, 118);
    }

    // none behind one with 0 moves; code 4: the word period behind a period with 0 moves
    private static void noneBehindOneWith0Moves() {
        errs(LAST + "period", 4, 22);
        errs(LAST + ONE, 4, 22);
        errs(LAST + LAST, 4, 22);
        errs(ONE + LAST + "session 5; period", 4, 55);
        errs(ONE + ONE + ONE + LAST + ONE, 4, 88);
        errs("period moves 00 time 5;period", 4, 23);
        reads(LAST + "extra 1 time 1;");
        reads(LAST + "session 1;");
        reads(LAST + "hand black 1;");
        reads(LAST + "claims;");
    }

    // the first statement is one; code 1: another first word of the text than period
    private static void theFirstStatementIsAPeriod() {
        errs("extra 1 time 1;" + LAST, 1, 0);
        errs("session 1;" + LAST, 1, 0);
        errs("hand black 1;" + LAST, 1, 0);
        errs("claims;" + LAST, 1, 0);
        errs("  claims;" + LAST, 1, 2);
        errs("moves 0 time 5;", 1, 0);
        errs("0", 1, 0);
        errs(";" + LAST, 1, 0);
    }

    // extra periods: how many, 1 to 9, and their time, 1 to 9999 ticks; none without it
    private static void extraPeriods() {
        range(LAST + "extra ", 1, 9, " time 5;");
        range(LAST + "extra 1 time ", 1, 9999, ";");
        GameClock clock = reads(LAST + "extra 9 time 9999;");
        Check.same("9 of them", clock.property(3), 9);
        Check.same("9 for each side", clock.side(0, 4) + 10 * clock.side(1, 4), 99);
        Check.same("of 9999 ticks", clock.property(4), 9999);
        clock = reads(LAST + "extra 1 time 1;");
        Check.same("1 of them", clock.property(3), 1);
        Check.same("of 1 tick", clock.property(4), 1);
        Check.load(clock, LAST);
        Check.same("none", clock.property(3) + clock.side(0, 4) + clock.side(1, 4), 0);
        Check.same("no time", clock.property(4), 0);
    }

    // the length of a session, 1 to 99999 ticks; no session without it
    private static void session() {
        range(LAST + "session ", 1, 99999, ";");
        Check.same("of 1 tick", reads(LAST + "session 1;").property(5), 1);
        GameClock clock = reads(LAST + "session 99999;");
        Check.same("of 99999 ticks", clock.property(5), 99999);
        Check.load(clock, LAST);
        Check.same("none", clock.property(5), GameClock.NONE);
    }

    // a side that has left so many ticks more at first, 1 to 9999
    private static void hand() {
        range(LAST + "hand white ", 1, 9999, ";");
        range(LAST + "hand black ", 1, 9999, ";");
        errs(LAST + "hand", 1, 26);
        errs(LAST + "hand 5;", 1, 27);
        errs(LAST + "hand blacks 5;", 1, 27);
        errs(LAST + "hand white black 5;", 1, 33);
        int[][] due = {{6, 5}, {10004, 5}, {5, 6}, {5, 10004}};
        String[] hands = {"white 1", "white 9999", "black 1", "black 9999"};
        GameClock clock = new GameClock();
        for (int i = 0; i < hands.length; i++) {
            Check.load(clock, LAST + "hand " + hands[i] + ";");
            Check.same("white with " + hands[i], clock.side(0, 0), due[i][0]);
            Check.same("black with " + hands[i], clock.side(1, 0), due[i][1]);
            Check.same("the period keeps its time", clock.period(0, 1), 5);
        }
        Check.load(clock, LAST);
        Check.same("without it", clock.side(0, 0) + clock.side(1, 0), 10);
        clock = reads("period moves 0 time 99999; hand white 9999;");
        Check.same("at the most", clock.side(0, 0), 109998);
    }

    // At most once (four times); code 3: the word extra, session, hand or claims a second time
    private static void atMostOnce() {
        String[] words = {"extra", "session", "hand", "claims"};
        String[] statements = {"extra 1 time 1;", "session 1;", "hand white 1;", "claims;"};
        for (int first = 0; first < 4; first++) {
            int behind = 22 + statements[first].length();
            for (int second = 0; second < 4; second++) {
                if (first == second) {
                    errs(LAST + statements[first] + words[first], 3, behind);
                    errs(LAST + statements[first] + statements[first], 3, behind);
                } else {
                    reads(LAST + statements[first] + statements[second]);
                    errs(LAST + statements[first] + statements[second] + words[first], 3,
                            behind + statements[second].length());
                }
            }
            errs(ONE + statements[first] + ONE + words[first], 3, behind + 22);
        }
        errs(LAST + "hand white 1;hand black 1;", 3, 35);
        errs(LAST + "hand black 1;hand white 1;", 3, 35);
    }

    // flags are claimed; without it they end the game at once
    private static void claims() {
        GameClock clock = reads(LAST + "claims;");
        Check.same("with it", clock.property(10), 1);
        clock.start();
        clock.tick(5);
        Check.same("the game goes on", clock.property(0), 1);
        Check.load(clock, LAST);
        Check.same("without it", clock.property(10), 0);
        clock.start();
        clock.tick(5);
        Check.same("the game is over", clock.property(0), 4);
    }

    // Periods are numbered from 0.
    private static void periodsAreNumberedFrom0() {
        GameClock clock = reads("period moves 1 time 11;period moves 2 time 12;period moves 3 time 13;"
                + "period moves 4 time 14;period moves 5 time 15;");
        for (int period = 0; period < 5; period++) {
            Check.same("the moves of " + period, clock.period(period, 0), 1 + period);
            Check.same("the time of " + period, clock.period(period, 1), 11 + period);
        }
        Check.same("a side begins in", clock.side(0, 2), 0);
    }

    // The parser reads tokens from left to right and stops at the first token that has an error
    private static void stopsAtTheFirstError() {
        errs("period moves 61 time 0;", 2, 13);
        errs("period moves 61 tim", 2, 13);
        errs("period moves x time 0;", 1, 13);
        errs(LAST + "period moves 61", 4, 22);
        errs(LAST + "session 0;session", 2, 30);
        errs(LAST + "extra 10 time 0;", 2, 28);
        errs(LAST + "claims;claims;period", 3, 29);
        errs(LAST + "hand red 0;", 1, 27);
    }

    // if that token has several errors, the smallest code counts
    private static void theSmallestCodeCounts() {
        errs(ONE + ONE + ONE + ONE + LAST + "period", 3, 110);
        errs(ONE + ONE + ONE + ONE + LAST + "session period", 1, 118);
        errs(LAST + "session period", 1, 30);
        errs(LAST + "claims;session claims", 1, 37);
        errs(LAST + "claims claims", 1, 29);
        errs(LAST + "session 5;hand session", 1, 37);
        errs(LAST + "extra 1 time 1;extra extra", 3, 37);
        errs(LAST + "extra 1 extra", 1, 30);
        errs(LAST + "hand hand", 1, 27);
        errs(LAST + "claims 100000;", 1, 29);
        errs("period moves 0 time 5 100000;", 1, 22);
        errs("period 61", 1, 7);
        errs("99999999999", 1, 0);
    }

    // The error position is the offset of the token's first byte; for the end of the text it is the text's length.
    private static void positionOfATokenAndOfTheEnd() {
        errs("\n\n  x", 1, 4);
        errs(LAST + "\n  claims  xyz;", 1, 33);
        errs(LAST + "session    100000;", 2, 33);
        errs("period moves 0 time 5", 1, 21);
        errs("period moves 0 time 5   ", 1, 24);
        errs("period moves 0 time 5\n", 1, 22);
        errs("p", 1, 0);
        errs("period" + " ".repeat(394), 1, 400);
        errs("period" + " ".repeat(393) + "x", 1, 399);
        errs("period moves 0 time 5" + " ".repeat(378) + ":", 1, 399);
        reads("period moves 0 time 5" + " ".repeat(378) + ";");
    }

    // Parses the input buffer and empties it.
    private static void loadEmptiesTheBuffer() {
        for (String text : new String[] {LAST, "x", "", ONE + " ".repeat(378)}) {
            GameClock clock = new GameClock();
            Check.load(clock, text);
            Check.raises("nothing is left to cut", IAE, () -> clock.truncate(1));
            Check.same("append behind load", clock.append(BLANKS, BLANKS, BLANKS, BLANKS, BLANKS), 20);
            Check.same("nothing of the text is read again", clock.load(), GameClock.PARSE_ERROR);
            Check.same("the end of the text", clock.errorPosition(), 20);
            Check.same("of nothing", clock.load(), GameClock.PARSE_ERROR);
            Check.same("its end", clock.errorPosition(), 0);
        }
    }

    // Returns the number of periods
    private static void loadReturnsThePeriods() {
        for (int periods = 1; periods <= 5; periods++) {
            GameClock clock = new GameClock();
            Check.same("load", Check.load(clock, ONE.repeat(periods)), periods);
            Check.same("periods", clock.property(2), periods);
            Check.same("load", Check.load(clock, ONE.repeat(periods - 1) + LAST), periods);
        }
    }

    private static GameClock used() {
        GameClock clock = Check.begun("period moves 1 time 50 bonus 2;period moves 0 time 9;extra 2 time 4;"
                + "session 3;hand white 5;claims;");
        clock.keep(0);
        Check.moveAfter(clock, 7);
        Check.moveAfter(clock, 8);
        clock.tick(90);
        clock.setBare(0, true);
        clock.setBare(1, true);
        clock.writeClock();
        return clock;
    }

    // PARSE_ERROR if there is a parse error (then only the buffer and the parse error change)
    private static void loadThatFailsChangesBufferAndErrorAlone() {
        String due = withoutErrors(Check.allBehind(TextEdgeTest::used, c -> { }));
        String[] texts = {"", "x", LAST + LAST, ONE + ONE + ONE + ONE + ONE + ONE, LAST + "session 0;",
            "period moves 60 time 99999 bonus 1 delay 2 back 3;extra 1 time 1;session 9;hand black 3;claims;!"};
        int[] codes = {1, 1, 4, 3, 2, 1};
        for (int i = 0; i < texts.length; i++) {
            String text = texts[i];
            GameClock clock = used();
            Check.same("load of " + text, Check.load(clock, text), -4);
            Check.same("the code of " + text, clock.errorCode(), codes[i]);
            String all = Check.allBehind(TextEdgeTest::used, c -> Check.load(c, text));
            Check.same("all behind " + text, withoutErrors(all), due);
        }
    }

    private static String withoutErrors(String all) {
        return all.replaceAll("error -?\\d+ -?\\d+", "");
    }

    // On success everything but the two slots and the output buffer is that of the text; the game has not begun, nobody
    // is bare, the log is empty.
    private static void loadThatSucceedsBeginsAnew() {
        GameClock clock = used();
        String output = Check.output(clock, 16);
        Check.load(clock, LAST);
        GameClock fresh = Check.loaded(LAST);
        for (int what = 0; what < 12; what++) {
            Check.same("property " + what, clock.property(what), fresh.property(what));
            Check.same("white " + what, clock.side(0, what), fresh.side(0, what));
            Check.same("black " + what, clock.side(1, what), fresh.side(1, what));
        }
        Check.raises("no move of the log", IndexOutOfBoundsException.class, () -> clock.logged(0, 0));
        Check.same("nothing finished", clock.finished(0) + clock.finished(1), 0);
        Check.same("nothing spent", clock.spent(0, 0) + clock.spent(1, 0), 0);
        Check.raises("one period alone", IndexOutOfBoundsException.class, () -> clock.period(1, 0));
        Check.same("the output buffer stays", Check.output(clock, 16), output);
        Check.same("the slot stays", clock.restore(0), 0);
        Check.same("its periods", clock.property(2), 2);
        Check.raises("the empty slot stays empty", ISE, () -> clock.restore(1));
    }

    // of the last load(); 0 (NONE) if it had none or there was no load()
    private static void errorOfTheLastLoad() {
        GameClock clock = new GameClock();
        Check.same("no load()", clock.errorCode(), 0);
        Check.same("no load()", clock.errorPosition(), GameClock.NONE);
        String[] texts = {LAST, "period moves 61", LAST + LAST, LAST, "", LAST + "claims;claims;", LAST};
        int[] codes = {0, 2, 4, 0, 1, 3, 0};
        int[] positions = {-1, 13, 22, -1, 0, 29, -1};
        for (int i = 0; i < texts.length; i++) {
            Check.load(clock, texts[i]);
            Check.same("the code of " + texts[i], clock.errorCode(), codes[i]);
            Check.same("the position of " + texts[i], clock.errorPosition(), positions[i]);
            Check.feed(clock, "?");
            clock.truncate(0);
            clock.setBare(0, false);
            clock.undo();
            clock.keep(0);
            clock.restore(0);
            Check.same("the code stays, " + texts[i], clock.errorCode(), codes[i]);
            Check.same("the position stays, " + texts[i], clock.errorPosition(), positions[i]);
        }
    }
}
