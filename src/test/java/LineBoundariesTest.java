/** The boundary cases of "Lines" and of the promises 4 (lift), 5 (hang), 6 (dial) and 8 (line), a test for each sentence. */
public final class LineBoundariesTest {
    private static final Due D = new Due("LineBoundariesTest");
    private static final int IDLE = 0, WAITING = 1, TONE = 2, DIALING = 3, RINGING = 4, RUNG = 5, TALKING = 6, CALLED = 7, BUSY = 8, VACANT = 9,
        PARKED = 10, HOWLING = 11;
    /** The state of the finder of a line that is DIALING: behind how many ticks from the tone with the digits 1 and 3. */
    private static final int RISING = 1, HUNTING = 2, LINKED = 3, STEPPING = 4;

    public static void main(String[] args) {
        theLines0To15();
        fourDigitsAtMost();
        fourDigitsAgainBehindTaking();
        digitsStayInAnyState();
        digitsAreDroppedByParking();
        digitsAreDroppedByHanging();
        reasonBecomes0WhenLiftedFromIdle();
        reasonStaysWhenLiftedOtherwise();
        liftOfALineThatIsLifted();
        liftInEveryState();
        hangOfALineOnTheHook();
        hangInEveryState();
        hangWhileDialing();
        hangOfASoughtLine();
        hangLetsGoOfTheCalledLine();
        hangKeepsTheLineThatCalls();
        theNumber0IsNotNone();
        dialInEveryState();
        dialWhileDialing();
        dialOfTheDigits0To9();
        finderOfALine();
        partnerOfALine();
        placesOfWaitingLines();
        parkingCount();
        D.end();
    }

    /** "There are 16 lines." "Everything is numbered from 0." */
    private static void theLines0To15() {
        RotaryExchange x = new RotaryExchange();
        for (int line = 0; line < 16; line++) {
            D.due("line(" + line + ", 0)", x.line(line, 0), IDLE);
            D.due("lift(" + line + ")", x.lift(line), WAITING);
            D.due("count(13)", x.count(13), line + 1);
            D.due("count(6)", x.count(6), line + 1);
        }
        for (int line = 0; line < 16; line++) {
            D.due("hang(" + line + ")", x.hang(line), WAITING);
            D.due("count(13)", x.count(13), 15 - line);
        }
        for (int line : new int[] {-1, 16}) {
            D.due("lift(" + line + ")", x.lift(line), -1);
            D.due("hang(" + line + ")", x.hang(line), -1);
            D.due("dial(" + line + ", 1)", x.dial(line, 1), -1);
            D.due("line(" + line + ", 0)", x.line(line, 0), -1);
        }
        D.due("count(6)", x.count(6), 16);
    }

    /** "A line can have up to 4 digits that were dialed and not taken yet." "TOO_MANY if it has 4 digits." */
    private static void fourDigitsAtMost() {
        RotaryExchange x = new RotaryExchange();
        D.bring(x, TONE);
        for (int digits = 1; digits <= 4; digits++) {
            D.due("dial(5, 0)", x.dial(5, 0), digits);
            D.due("line(5, 4)", x.line(5, 4), digits);
        }
        D.due("dial(5, 0)", x.dial(5, 0), -4);
        D.due("dial(5, 9)", x.dial(5, 9), -4);
        D.due("line(5, 4)", x.line(5, 4), 4);
    }

    /** Taken digits make room, and those that are left keep their order: the line 5 calls 14, then has 0 and 9 left. */
    private static void fourDigitsAgainBehindTaking() {
        RotaryExchange x = new RotaryExchange();
        D.bring(x, TONE);
        D.due("dial(5, 4)", x.dial(5, 4), 1);
        x.tick(1);
        Due.dialAll(x, 5, 3, 0, 9, 8);
        D.due("dial(5, 7)", x.dial(5, 7), -4);
        x.tick(6);
        D.due("finder(0, 0)", x.finder(0, 0), 6);
        D.due("finder(0, 5)", x.finder(0, 5), 3);
        D.due("dial(5, 7)", x.dial(5, 7), 4);
        D.due("dial(5, 7)", x.dial(5, 7), -4);
        x.tick(3);
        D.due("line(14, 0)", x.line(14, 0), RUNG);
        D.due("line(5, 4)", x.line(5, 4), 4);
    }

    /** "they stay, in any state, until they are taken or dropped" */
    private static void digitsStayInAnyState() {
        RotaryExchange x = new RotaryExchange();
        x.set(1, 3);
        D.bring(x, TONE);
        Due.dialAll(x, 5, 1, 2, 3, 4);
        D.waitFor(x, 5, DIALING);
        D.due("digits while DIALING", x.line(5, 4), 3);
        D.waitFor(x, 5, RINGING);
        D.due("digits while RINGING", x.line(5, 4), 2);
        D.waitFor(x, 5, BUSY);
        D.due("digits while BUSY", x.line(5, 4), 2);
        x.hang(5);
        D.bring(x, TONE);
        Due.dialAll(x, 5, 1, 2, 3, 4);
        D.waitFor(x, 5, RINGING);
        x.lift(1);
        D.waitFor(x, 5, TALKING);
        x.tick(50);
        D.due("digits while TALKING", x.line(5, 4), 2);
        x.hang(5);
        D.bring(x, TONE);
        Due.dialAll(x, 5, 5, 0, 3, 4);
        D.waitFor(x, 5, VACANT);
        D.due("digits while VACANT", x.line(5, 4), 3);
    }

    /** "To be parked means that a line becomes PARKED, and its parking count 0; its digits are dropped." */
    private static void digitsAreDroppedByParking() {
        RotaryExchange x = new RotaryExchange();
        x.set(3, 2);
        D.bring(x, TONE);
        Due.dialAll(x, 5, 1, 2, 3, 4);
        D.waitFor(x, 5, RINGING);
        x.lift(1);
        x.tick(1);
        x.hang(1);
        x.tick(1);
        D.due("digits before", x.line(5, 4), 2);
        x.tick(1);
        D.due("parked at the end of a conversation", x.line(5, 0), PARKED);
        D.due("digits then", x.line(5, 4), 0);
        x.hang(5);
        D.bring(x, BUSY);
        D.due("digits of a BUSY line", x.line(5, 4), 0);
        x.hang(5);
        D.bring(x, TONE);
        x.dial(5, 7);
        x.dial(5, 7);
        D.waitFor(x, 5, VACANT);
        D.due("digits before", x.line(5, 4), 1);
        D.waitFor(x, 5, PARKED);
        D.due("parked behind the tone", x.line(5, 4), 0);
    }

    /** "all others become IDLE, their digits are dropped": the next call begins without them. */
    private static void digitsAreDroppedByHanging() {
        RotaryExchange x = new RotaryExchange();
        D.bring(x, TONE);
        Due.dialAll(x, 5, 4, 3, 2, 1);
        D.due("hang(5)", x.hang(5), TONE);
        D.due("line(5, 4)", x.line(5, 4), 0);
        D.bring(x, TONE);
        x.tick(3);
        D.due("it still has the tone", x.line(5, 0), TONE);
        D.due("dial(5, 1)", x.dial(5, 1), 1);
        x.tick(2);
        D.due("the digit is the new one", x.finder(x.line(5, 2), 3), 1);
        D.due("the digit is the new one", x.finder(x.line(5, 2), 5), 0);
    }

    /** "A line has a reason, which is 0 at first and becomes 0 whenever it is lifted from IDLE" */
    private static void reasonBecomes0WhenLiftedFromIdle() {
        RotaryExchange x = new RotaryExchange();
        D.due("at first", x.line(5, 6), 0);
        D.bring(x, VACANT);
        D.due("VACANT", x.line(5, 6), 3);
        D.due("hang(5)", x.hang(5), VACANT);
        D.due("on the hook", x.line(5, 6), 3);
        D.due("lift(5)", x.lift(5), WAITING);
        D.due("lifted", x.line(5, 6), 0);
        D.due("hang(5)", x.hang(5), WAITING);
        D.due("hung", x.line(5, 6), 0);
        D.due("lift(5)", x.lift(5), WAITING);
        D.waitFor(x, 5, HOWLING);
        D.due("HOWLING", x.line(5, 6), 5);
        D.due("lift(5)", x.lift(5), -5);
        D.due("still HOWLING", x.line(5, 6), 5);
    }

    /** A line that is RUNG or CALLED is not lifted from IDLE, so that the reason of its latest call stays. */
    private static void reasonStaysWhenLiftedOtherwise() {
        RotaryExchange x = new RotaryExchange();
        D.bring(x, VACANT);
        x.hang(5);
        D.bringRinging(x, 1, 5);
        D.due("RUNG", x.line(5, 6), 3);
        D.due("lift(5)", x.lift(5), RUNG);
        D.due("lifted while RUNG", x.line(5, 6), 3);
        x.tick(1);
        D.due("hang(5)", x.hang(5), CALLED);
        D.due("lift(5)", x.lift(5), CALLED);
        D.due("lifted while CALLED", x.line(5, 6), 3);
        D.due("count(6)", x.count(6), 2);
    }

    /** "NOT_POSSIBLE if it is lifted", in each state in which a line can be lifted. */
    private static void liftOfALineThatIsLifted() {
        for (int state : new int[] {WAITING, TONE, DIALING, RINGING, TALKING, CALLED, BUSY, VACANT, PARKED, HOWLING}) {
            RotaryExchange x = new RotaryExchange();
            D.bring(x, state);
            D.due("lift while " + state, x.lift(5), -5);
            D.due("state behind it", x.line(5, 0), state);
        }
        RotaryExchange x = new RotaryExchange();
        D.bring(x, RUNG);
        D.due("lift while RUNG", x.lift(5), RUNG);
        D.due("lift while RUNG and lifted", x.lift(5), -5);
    }

    /** "An IDLE line becomes WAITING, with the reason 0; the state of a line that is RUNG or CALLED stays." */
    private static void liftInEveryState() {
        RotaryExchange idle = new RotaryExchange();
        D.due("lift while IDLE", idle.lift(5), WAITING);
        D.due("count(6)", idle.count(6), 1);
        for (int state : new int[] {RUNG, CALLED}) {
            RotaryExchange x = new RotaryExchange();
            D.bring(x, state);
            if (state == CALLED) {
                D.due("hang while CALLED", x.hang(5), CALLED);
            }
            D.due("lifted", x.line(5, 1), 0);
            D.due("lift while " + state, x.lift(5), state);
            D.due("state", x.line(5, 0), state);
            D.due("lifted", x.line(5, 1), 1);
            D.due("place", x.line(5, 7), -6);
            D.due("count(6)", x.count(6), 1);
        }
    }

    /** "NOT_POSSIBLE if it is on the hook", in each state in which a line can be on the hook. */
    private static void hangOfALineOnTheHook() {
        RotaryExchange idle = new RotaryExchange();
        D.due("hang while IDLE", idle.hang(5), -5);
        RotaryExchange rung = new RotaryExchange();
        D.bring(rung, RUNG);
        D.due("hang while RUNG", rung.hang(5), -5);
        D.due("state", rung.line(5, 0), RUNG);
        D.due("the caller", rung.line(1, 0), RINGING);
        RotaryExchange called = new RotaryExchange();
        D.bring(called, CALLED);
        D.due("hang while CALLED", called.hang(5), CALLED);
        D.due("hang again", called.hang(5), -5);
        D.due("state", called.line(5, 0), CALLED);
        D.due("the caller", called.line(1, 0), TALKING);
    }

    /** "The state of a line that is RUNG or CALLED stays; all others become IDLE [..] if there is a finder [..], it becomes free" */
    private static void hangInEveryState() {
        for (int state : new int[] {WAITING, TONE, DIALING, RINGING, TALKING, BUSY, VACANT, PARKED, HOWLING}) {
            RotaryExchange x = new RotaryExchange();
            D.bring(x, state);
            int reason = x.line(5, 6);
            D.due("hang while " + state, x.hang(5), state);
            D.line("behind " + state, x, 5, IDLE, 0, -6, -6, 0, state == TALKING ? 1 : 0, reason, -6, 0);
            D.due("behind " + state + ": free finders", x.count(3), 2);
            D.due("behind " + state + ": free connectors", x.count(4), 4);
        }
        for (int state : new int[] {RUNG, CALLED}) {
            RotaryExchange x = new RotaryExchange();
            D.bring(x, state);
            if (state == RUNG) {
                D.due("lift while RUNG", x.lift(5), RUNG);
            }
            D.due("hang while " + state, x.hang(5), state);
            D.due("state", x.line(5, 0), state);
            D.due("lifted", x.line(5, 1), 0);
            D.due("free finders", x.count(3), 1);
            D.due("free connectors", x.count(4), 3);
        }
    }

    /** A finder that is RISING, HUNTING, LINKED or STEPPING becomes free, and what it holds. */
    private static void hangWhileDialing() {
        for (int ticks : new int[] {RISING, HUNTING, LINKED, STEPPING}) {
            RotaryExchange x = new RotaryExchange();
            D.bring(x, TONE);
            x.dial(5, 1);
            x.dial(5, 3);
            x.tick(ticks);
            D.due("finder(0, 0)", x.finder(0, 0), ticks + 2);
            D.due("hang(5)", x.hang(5), DIALING);
            D.finder("behind " + ticks, x, 0, 0, 5, -6, 0, -6, 0, 0, 0);
            D.due("connector(1, 0)", x.connector(1, 0), -6);
            x.tick(20);
            D.due("line(2, 0)", x.line(2, 0), IDLE);
            D.due("count(8)", x.count(8), 0);
        }
    }

    /** "(also one that seeks it)" */
    private static void hangOfASoughtLine() {
        RotaryExchange x = new RotaryExchange();
        x.lift(5);
        x.tick(1);
        D.due("finder(0, 0)", x.finder(0, 0), 1);
        D.due("hang(5)", x.hang(5), WAITING);
        D.due("finder(0, 0)", x.finder(0, 0), 0);
        D.due("finder(0, 2)", x.finder(0, 2), -6);
        D.due("count(3)", x.count(3), 2);
        x.tick(9);
        D.due("finder(0, 1)", x.finder(0, 1), 0);
        D.due("line(5, 0)", x.line(5, 0), IDLE);
    }

    /** "the line that is called by it, if it is RUNG or CALLED, becomes IDLE if it is on the hook, and is parked [..] if it is lifted" */
    private static void hangLetsGoOfTheCalledLine() {
        for (int state : new int[] {RINGING, TALKING}) {
            for (int lifted = 0; lifted < 2; lifted++) {
                RotaryExchange x = new RotaryExchange();
                D.bring(x, state);
                if (state == RINGING && lifted == 1) {
                    x.lift(1);
                } else if (state == TALKING && lifted == 0) {
                    x.hang(1);
                }
                D.due("hang(5)", x.hang(5), state);
                D.line("behind " + state, x, 1, lifted == 1 ? PARKED : IDLE, lifted, -6, -6, 0, 0, lifted == 1 ? 6 : 0, -6, 0);
                D.due("reason of the line that was hung", x.line(5, 6), 0);
                D.due("trace(1, 2)", x.trace(1, 2), -6);
                D.due("count(12)", x.count(12), 0);
            }
        }
    }

    /** A line that is CALLED and hung is called on: its caller, its finder and their connector stay. */
    private static void hangKeepsTheLineThatCalls() {
        RotaryExchange x = new RotaryExchange();
        D.bring(x, CALLED);
        D.due("hang(5)", x.hang(5), CALLED);
        D.due("line(1, 0)", x.line(1, 0), TALKING);
        D.due("line(1, 3)", x.line(1, 3), 5);
        D.due("finder(0, 0)", x.finder(0, 0), 8);
        D.due("connector(2, 0)", x.connector(2, 0), 0);
        D.due("count(13)", x.count(13), 1);
    }

    /** The line 0 and the finder 0 are in a call; lines without a call or a finder come and go beside them. */
    private static void theNumber0IsNotNone() {
        RotaryExchange x = new RotaryExchange();
        D.bringRinging(x, 5, 0);
        D.due("line(5, 3)", x.line(5, 3), 0);
        for (int round = 0; round < 2; round++) {
            x.lift(7);
            x.hang(7);
            x.lift(7);
            x.tick(1);
            D.due("line(7, 3)", x.line(7, 3), -6);
            x.hang(7);
            D.line("round " + round, x, 5, round == 0 ? RINGING : TALKING, 1, 0, 0, 0, round, 0, -6, 0);
            D.line("round " + round, x, 0, round == 0 ? RUNG : CALLED, round, 0, 5, 0, 0, 0, -6, 0);
            D.due("connector(1, 0)", x.connector(1, 0), 0);
            D.due("finder(0, 0)", x.finder(0, 0), round == 0 ? 7 : 8);
            D.due("trace(0, 2)", x.trace(0, 2), 5);
            x.lift(0);
            x.tick(1);
        }
    }

    /** "NOT_POSSIBLE if the line is neither TONE nor DIALING" */
    private static void dialInEveryState() {
        for (int state = IDLE; state <= HOWLING; state++) {
            RotaryExchange x = new RotaryExchange();
            D.bring(x, state);
            D.due("dial while " + state, x.dial(5, 1), state == TONE || state == DIALING ? 1 : -5);
            D.due("digits", x.line(5, 4), state == TONE || state == DIALING ? 1 : 0);
        }
        RotaryExchange x = new RotaryExchange();
        D.bring(x, RUNG);
        x.lift(5);
        D.due("dial while RUNG and lifted", x.dial(5, 1), -5);
    }

    /** DIALING lasts while the finder is RISING, HUNTING, LINKED or STEPPING. */
    private static void dialWhileDialing() {
        for (int ticks : new int[] {RISING, HUNTING, LINKED, STEPPING}) {
            RotaryExchange x = new RotaryExchange();
            D.bring(x, TONE);
            x.dial(5, 1);
            x.dial(5, 3);
            x.tick(ticks);
            D.due("finder(0, 0)", x.finder(0, 0), ticks + 2);
            D.due("line(5, 0)", x.line(5, 0), DIALING);
            D.due("dial(5, 9)", x.dial(5, 9), ticks == STEPPING ? 1 : 2);
        }
    }

    /** "digit: 0 to 9" */
    private static void dialOfTheDigits0To9() {
        RotaryExchange x = new RotaryExchange();
        for (int digit = 0; digit <= 9; digit++) {
            D.bring(x, TONE);
            D.due("dial(5, " + digit + ")", x.dial(5, digit), 1);
            x.tick(1);
            D.due("pulses of " + digit, x.finder(x.line(5, 2), 5), digit == 0 ? 10 : digit);
            x.hang(5);
        }
        D.bring(x, TONE);
        D.due("dial(5, -1)", x.dial(5, -1), -2);
        D.due("dial(5, 10)", x.dial(5, 10), -2);
        D.due("line(5, 4)", x.line(5, 4), 0);
    }

    /** "2 its finder (also one that seeks it; for a line that is RUNG or CALLED, the finder of the caller; NONE if there is none)" */
    private static void finderOfALine() {
        for (int state = IDLE; state <= HOWLING; state++) {
            RotaryExchange x = new RotaryExchange();
            D.bring(x, state);
            boolean none = state == IDLE || state == WAITING || state == PARKED || state == HOWLING;
            D.due("finder while " + state, x.line(5, 2), none ? -6 : 0);
        }
        RotaryExchange x = new RotaryExchange();
        D.bring(x, WAITING);
        x.tick(1);
        D.due("finder that seeks", x.line(5, 2), 0);
    }

    /** "3 the line with which it rings, is rung, or talks (NONE if there is none)" */
    private static void partnerOfALine() {
        for (int state = IDLE; state <= HOWLING; state++) {
            RotaryExchange x = new RotaryExchange();
            D.bring(x, state);
            D.due("partner while " + state, x.line(5, 3), state >= RINGING && state <= CALLED ? 1 : -6);
            D.due("its partner", x.line(1, 3), state >= RINGING && state <= CALLED ? 5 : -6);
        }
    }

    /** "7 its place, from 0 on, among the lines that are WAITING and that no finder seeks, by the order in which they were lifted" */
    private static void placesOfWaitingLines() {
        RotaryExchange x = new RotaryExchange();
        x.setUp(1, 1);
        for (int line = 15; line >= 0; line--) {
            x.lift(line);
            D.due("place of " + line, x.line(line, 7), 15 - line);
        }
        x.tick(1);
        D.due("place of the line that is sought", x.line(15, 7), -6);
        D.due("state of the line that is sought", x.line(15, 0), WAITING);
        for (int line = 14; line >= 0; line--) {
            D.due("place of " + line, x.line(line, 7), 14 - line);
        }
        x.hang(7);
        D.due("place of a line that was hung", x.line(7, 7), -6);
        D.due("place before it", x.line(8, 7), 6);
        D.due("place behind it", x.line(6, 7), 7);
        x.lift(7);
        D.due("place of a line that was lifted again", x.line(7, 7), 14);
        D.due("the last one before", x.line(0, 7), 13);
    }

    /** "8 its parking count (0 if it is not PARKED)" */
    private static void parkingCount() {
        for (int state = IDLE; state <= HOWLING; state++) {
            if (state != PARKED) {
                RotaryExchange x = new RotaryExchange();
                D.bring(x, state);
                D.due("parking count while " + state, x.line(5, 8), 0);
            }
        }
        RotaryExchange x = new RotaryExchange();
        D.bring(x, PARKED);
        for (int count = 1; count < 15; count++) {
            D.due("parking count", x.line(5, 8), count);
            D.due("line(5, 0)", x.line(5, 0), PARKED);
            x.tick(1);
        }
        D.due("line(5, 0)", x.line(5, 0), HOWLING);
        D.due("parking count while HOWLING", x.line(5, 8), 0);
        D.due("hang(5)", x.hang(5), HOWLING);
        D.bring(x, PARKED);
        x.tick(5);
        x.hang(5);
        D.due("parking count behind hang", x.line(5, 8), 0);
        D.bring(x, PARKED);
        D.due("the count begins anew", x.line(5, 8), 1);
    }
}
