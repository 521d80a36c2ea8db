/** The boundary cases of "A tick" and of the promise 7 (tick), a test for each sentence. */
public final class TickBoundariesTest {
    private static final Due D = new Due("TickBoundariesTest");
    private static final int WAIT = 0, RING = 1, PERIOD = 2, CLEAR = 3, HOWL = 4;
    private static final int IDLE = 0, WAITING = 1, TONE = 2, DIALING = 3, RINGING = 4, RUNG = 5, TALKING = 6, CALLED = 7, BUSY = 8, VACANT = 9,
        PARKED = 10, HOWLING = 11;

    public static void main(String[] args) {
        ticks1To1000();
        timeUpTo100000();
        manyTicksAreManyTimesOne();
        seekingFromEachPosition();
        seekingWithTheWrap();
        readyForWaitTicks();
        readyWithADigitAtTheLastMoment();
        readyBehindALoweredWait();
        linkedForWaitTicks();
        linkedWithADigitAtTheLastMoment();
        givingUpLeavesNothing();
        calledLineInEveryState();
        twoFindersTestTheSameLine();
        calledLineFreedInTheSameTick();
        connectorFreedInTheSameTick();
        ringsForRingTicks();
        liftedAtTheLastMoment();
        liftedAndHungBeforeTheTick();
        ringingBehindALoweredRing();
        throughBeginsAt0();
        clearsBehindClearTicks();
        clearingBeginsAnew();
        timerRunsOnTheHookToo();
        metersEachPeriod();
        noMeterInTheTickThatClears();
        soundsForWaitTicks();
        reasonStaysBehindEachTone();
        soundingBehindALoweredWait();
        noLineWaits();
        noFinderIsFree();
        oneFinderInATick();
        finderFreedInThisTick();
        findersInCircularOrder();
        firstLiftedFirst();
        hungLinesDoNotWait();
        parkedForHowlTicks();
        parkedByHangBegins0();
        howlingForGood();
        D.end();
    }

    /** Brings the line 0 to the tone; with WAIT ticks before its finder gives up. */
    private static RotaryExchange withTone(int wait) {
        RotaryExchange x = new RotaryExchange();
        x.set(WAIT, wait);
        x.lift(0);
        x.tick(2);
        D.due("line(0, 0)", x.line(0, 0), TONE);
        return x;
    }

    private static RotaryExchange ringing() {
        RotaryExchange x = new RotaryExchange();
        D.bringRinging(x, 0, 1);
        return x;
    }

    private static RotaryExchange talking() {
        RotaryExchange x = new RotaryExchange();
        D.bringTalking(x, 0, 1);
        return x;
    }

    /** "ticks: 1 to 1000" */
    private static void ticks1To1000() {
        RotaryExchange x = new RotaryExchange();
        D.due("tick(1)", x.tick(1), 1);
        D.due("tick(1000)", x.tick(1000), 1001);
        D.due("tick(999)", x.tick(999), 2000);
        for (int ticks : new int[] {0, 1001, -1, Integer.MIN_VALUE, Integer.MAX_VALUE}) {
            D.due("tick(" + ticks + ")", x.tick(ticks), -2);
        }
        D.due("count(0)", x.count(0), 2000);
    }

    /** "NOT_POSSIBLE if the time would be greater than 100000" */
    private static void timeUpTo100000() {
        RotaryExchange x = new RotaryExchange();
        Due.passTo(x, 99000);
        x.save(0);
        D.due("tick(1000) at 99000", x.tick(1000), 100000);
        for (int ticks : new int[] {1, 2, 1000}) {
            D.due("tick(" + ticks + ") at 100000", x.tick(ticks), -5);
        }
        D.due("tick(1001) at 100000", x.tick(1001), -2);
        x.restore(0);
        x.tick(1);
        D.due("tick(1000) at 99001", x.tick(1000), -5);
        D.due("count(0)", x.count(0), 99001);
        D.due("tick(999) at 99001", x.tick(999), 100000);
        D.due("lift(0) at 100000", x.lift(0), WAITING);
        D.due("hang(0) at 100000", x.hang(0), WAITING);
    }

    /** tick(n) makes n ticks, not one greater one. */
    private static void manyTicksAreManyTimesOne() {
        RotaryExchange together = new RotaryExchange();
        RotaryExchange apart = new RotaryExchange();
        for (RotaryExchange x : new RotaryExchange[] {together, apart}) {
            Due.put(x, "l5,l2,l9,t8,d512,d233,t5,l1,l6");
            x.carryOut();
        }
        together.tick(87);
        for (int i = 0; i < 87; i++) {
            apart.tick(1);
        }
        D.same("87 ticks", Due.everything(together), Due.everything(apart));
    }

    /** "if its position is the number of its line, it becomes READY [..]; otherwise its position increases by 1" */
    private static void seekingFromEachPosition() {
        for (int line = 0; line < 16; line++) {
            RotaryExchange x = new RotaryExchange();
            x.lift(line);
            x.tick(1 + line);
            D.due("still seeks " + line, x.finder(0, 0), 1);
            D.due("at " + line, x.finder(0, 1), line);
            x.tick(1);
            D.due("READY at " + line, x.finder(0, 0), 2);
            D.due("at " + line, x.finder(0, 1), line);
            D.due("TONE", x.line(line, 0), TONE);
            D.due("count(7)", x.count(7), 1);
        }
    }

    /** "(from 15 to 0)": from a line to the one before is the longest way. */
    private static void seekingWithTheWrap() {
        RotaryExchange x = new RotaryExchange();
        x.setUp(1, 1);
        D.bringTone(x, 3);
        x.hang(3);
        x.lift(2);
        x.tick(1);
        for (int step = 1; step <= 15; step++) {
            x.tick(1);
            D.due("position", x.finder(0, 1), (3 + step) % 16);
            D.due("line(2, 0)", x.line(2, 0), WAITING);
        }
        x.tick(1);
        D.due("line(2, 0)", x.line(2, 0), TONE);
    }

    /** READY: "Otherwise the timer increases by 1; if it is at least WAIT then, the line gives up." */
    private static void readyForWaitTicks() {
        for (int wait : new int[] {1, 2, 20, 200}) {
            RotaryExchange x = withTone(wait);
            if (wait > 1) {
                x.tick(wait - 1);
            }
            D.due("timer", x.finder(0, 6), wait - 1);
            D.due("line(0, 0)", x.line(0, 0), TONE);
            x.tick(1);
            D.due("line(0, 1)", x.line(0, 1), 1);
            D.due("line(0, 0)", x.line(0, 0), PARKED);
            D.due("line(0, 6)", x.line(0, 6), 5);
            D.due("finder(0, 0)", x.finder(0, 0), 0);
            D.due("count(12)", x.count(12), 1);
        }
    }

    private static void readyWithADigitAtTheLastMoment() {
        for (int wait : new int[] {1, 2, 200}) {
            RotaryExchange x = withTone(wait);
            if (wait > 1) {
                x.tick(wait - 1);
            }
            D.due("dial(0, 9)", x.dial(0, 9), 1);
            x.tick(1);
            D.due("line(0, 0)", x.line(0, 0), DIALING);
            D.due("finder(0, 0)", x.finder(0, 0), 3);
            D.due("timer", x.finder(0, 6), 0);
            D.due("count(12)", x.count(12), 0);
        }
    }

    /** "at least WAIT": also if WAIT was lowered below the timer meanwhile; a raised one is waited for. */
    private static void readyBehindALoweredWait() {
        RotaryExchange x = withTone(50);
        x.tick(40);
        x.set(WAIT, 7);
        D.due("nothing happens before the tick", x.line(0, 0), TONE);
        x.tick(1);
        D.due("line(0, 0)", x.line(0, 0), PARKED);
        RotaryExchange raised = withTone(50);
        raised.tick(49);
        raised.set(WAIT, 60);
        raised.tick(10);
        D.due("line(0, 0)", raised.line(0, 0), TONE);
        raised.tick(1);
        D.due("line(0, 0)", raised.line(0, 0), PARKED);
    }

    /** LINKED: "if it is at least WAIT then, the line gives up" */
    private static void linkedForWaitTicks() {
        for (int wait : new int[] {1, 2, 200}) {
            RotaryExchange x = withTone(wait);
            x.dial(0, 1);
            x.tick(3);
            D.due("finder(0, 0)", x.finder(0, 0), 5);
            D.due("connector(1, 0)", x.connector(1, 0), 0);
            if (wait > 1) {
                x.tick(wait - 1);
            }
            D.due("timer", x.finder(0, 6), wait - 1);
            D.due("line(0, 0)", x.line(0, 0), DIALING);
            x.tick(1);
            D.due("line(0, 0)", x.line(0, 0), PARKED);
            D.due("line(0, 6)", x.line(0, 6), 5);
            D.due("connector(1, 0)", x.connector(1, 0), -6);
            D.due("count(12)", x.count(12), 1);
        }
        RotaryExchange x = withTone(90);
        x.dial(0, 1);
        x.tick(60);
        x.set(WAIT, 3);
        x.tick(1);
        D.due("behind a lowered WAIT", x.line(0, 0), PARKED);
    }

    private static void linkedWithADigitAtTheLastMoment() {
        RotaryExchange x = withTone(6);
        x.dial(0, 1);
        x.tick(3 + 5);
        D.due("timer", x.finder(0, 6), 5);
        x.dial(0, 2);
        x.tick(1);
        D.due("finder(0, 0)", x.finder(0, 0), 6);
        D.due("timer", x.finder(0, 6), 0);
        x.tick(2);
        D.due("line(0, 0)", x.line(0, 0), RINGING);
    }

    /** "To give up (a line) means: the finder becomes free, and what it holds; the line is parked, with the reason 5." */
    private static void givingUpLeavesNothing() {
        RotaryExchange x = withTone(6);
        x.dial(0, 1);
        x.tick(3 + 6);
        D.finder("then", x, 0, 0, 0, -6, 0, -6, 0, 0, 0);
        D.line("then", x, 0, PARKED, 1, -6, -6, 0, 0, 5, -6, 1);
        D.due("count(3)", x.count(3), 2);
        D.due("count(4)", x.count(4), 4);
        D.due("count(10)", x.count(10), 0);
        D.due("count(11)", x.count(11), 0);
    }

    /** "the called line is tested: if it is not IDLE [..] the line is BUSY, with the reason 1; otherwise the finder becomes CALLING" */
    private static void calledLineInEveryState() {
        for (int state = IDLE; state <= HOWLING; state++) {
            RotaryExchange x = new RotaryExchange();
            x.setUp(4, 3);
            boolean passesSoon = state == WAITING || state == DIALING;
            if (!passesSoon) {
                D.bring(x, state);
            }
            int busies = x.count(10);
            lengthenAll(x);
            bringLinked(x, 9, 2);
            if (passesSoon) {
                D.bring(x, state);
            }
            x.dial(9, 2);
            x.tick(2);
            D.due("before the test", x.line(9, 0), DIALING);
            D.due("before the test", x.line(5, 0), state);
            x.tick(1);
            D.due("a line that is " + state, x.line(9, 0), state == IDLE ? RINGING : BUSY);
            D.due("reason", x.line(9, 6), state == IDLE ? 0 : 1);
            D.due("it stays " + state, x.line(5, 0), state == IDLE ? RUNG : state);
            D.due("count(10)", x.count(10) - busies, state == IDLE ? 0 : 1);
            D.due("finder", x.finder(x.line(9, 2), 0), state == IDLE ? 7 : 9);
        }
        RotaryExchange itself = new RotaryExchange();
        D.bring(itself, BUSY);
        D.due("the line itself", itself.line(5, 6), 1);
        hungBeforeTheTest();
    }

    /** So that nothing ends by itself. */
    private static void lengthenAll(RotaryExchange x) {
        x.set(WAIT, 200);
        x.set(RING, 200);
        x.set(CLEAR, 100);
        x.set(HOWL, 200);
    }

    private static void bringLinked(RotaryExchange x, int line, int digit) {
        D.bringTone(x, line);
        x.dial(line, digit);
        linked(x, line);
    }

    private static void linked(RotaryExchange x, int line) {
        for (int i = 0; i < 20 && x.finder(x.line(line, 2), 0) != 5; i++) {
            x.tick(1);
        }
        D.due("LINKED", x.finder(x.line(line, 2), 0), 5);
    }

    /** A line that was RUNG or CALLED and is IDLE again can be called. */
    private static void hungBeforeTheTest() {
        for (int state : new int[] {RUNG, CALLED}) {
            RotaryExchange x = new RotaryExchange();
            D.bring(x, state);
            if (state == CALLED) {
                x.hang(5);
            }
            x.hang(1);
            D.bringRinging(x, 9, 5);
            D.due("line(5, 3)", x.line(5, 3), 9);
        }
    }

    /** "Each finder, in ascending order, takes a step": of two that test one line in one tick, the lower one gets it. */
    private static void twoFindersTestTheSameLine() {
        RotaryExchange x = twoLinked();
        x.dial(1, 1);
        x.dial(2, 1);
        x.tick(1);
        D.due("finder(0, 5)", x.finder(0, 5), 1);
        D.due("finder(1, 5)", x.finder(1, 5), 1);
        x.tick(1);
        D.due("the line of the finder 0", x.line(2, 0), RINGING);
        D.due("the line of the finder 1", x.line(1, 0), BUSY);
        D.due("reason", x.line(1, 6), 1);
        D.due("line(0, 3)", x.line(0, 3), 2);
    }

    /** The line 2 with the finder 0 and the line 1 with the finder 1, both LINKED on the level 1 for long. */
    private static RotaryExchange twoLinked() {
        RotaryExchange x = new RotaryExchange();
        x.setUp(2, 2);
        x.set(WAIT, 200);
        x.lift(2);
        x.lift(1);
        x.tick(4);
        D.due("line(2, 2)", x.line(2, 2), 0);
        D.due("line(1, 2)", x.line(1, 2), 1);
        x.dial(2, 1);
        x.dial(1, 1);
        linked(x, 2);
        linked(x, 1);
        return x;
    }

    /** A line that is rung in vain until a tick is IDLE for the finders behind, but not for those before. */
    private static void calledLineFreedInTheSameTick() {
        for (int first : new int[] {2, 1}) {
            RotaryExchange x = twoLinked();
            x.set(RING, 8);
            int second = 3 - first;
            x.dial(first, 4);
            x.tick(8);
            x.dial(second, 4);
            x.tick(4);
            D.due("timer before the last tick", x.finder(x.line(first, 2), 6), 7);
            D.due("pulses before the last tick", x.finder(x.line(second, 2), 5), 1);
            x.tick(1);
            D.due("nobody answered", x.line(first, 0), BUSY);
            D.due("reason", x.line(first, 6), 4);
            D.due("tested before or behind it", x.line(second, 0), first == 2 ? RINGING : BUSY);
            D.due("line(3, 0)", x.line(3, 0), first == 2 ? RUNG : IDLE);
            D.due("line(3, 3)", x.line(3, 3), first == 2 ? second : -6);
        }
    }

    /** A connector that a finder gives up in a tick is free for the finders behind, but not for those before. */
    private static void connectorFreedInTheSameTick() {
        for (int first : new int[] {2, 1}) {
            RotaryExchange x = new RotaryExchange();
            x.set(WAIT, 200);
            x.lift(2);
            x.lift(1);
            x.tick(4);
            int second = 3 - first;
            x.dial(first, 3);
            x.tick(6);
            x.set(WAIT, 15);
            x.dial(second, 3);
            D.due("timer", x.finder(x.line(first, 2), 6), 1);
            x.tick(4);
            D.due("HUNTING", x.finder(x.line(second, 2), 0), 4);
            x.set(WAIT, 6);
            x.tick(1);
            D.due("given up", x.line(first, 0), PARKED);
            D.due("LINKED or in vain", x.line(second, 0), first == 2 ? DIALING : BUSY);
            D.due("connector(3, 0)", x.connector(3, 0), first == 2 ? 1 : -6);
        }
    }

    /** CALLING: "the timer increases by 1; if it is at least RING then, the connector is given up [..]" */
    private static void ringsForRingTicks() {
        for (int ring : new int[] {1, 2, 200}) {
            RotaryExchange x = ringing();
            x.set(RING, ring);
            if (ring > 1) {
                x.tick(ring - 1);
            }
            D.due("timer", x.finder(0, 6), ring - 1);
            D.due("line(0, 0)", x.line(0, 0), RINGING);
            x.tick(1);
            D.due("line(0, 0)", x.line(0, 0), BUSY);
            D.due("line(0, 6)", x.line(0, 6), 4);
            D.due("finder(0, 0)", x.finder(0, 0), 9);
            D.due("finder(0, 6)", x.finder(0, 6), 0);
            D.due("connector(1, 0)", x.connector(1, 0), -6);
            D.line("then", x, 1, IDLE, 0, -6, -6, 0, 0, 0, -6, 0);
            D.due("count(10)", x.count(10), 1);
            D.due("count(5)", x.count(5), 0);
        }
    }

    /** "if the called line is lifted (at this moment), the finder becomes THROUGH": it comes before the timer. */
    private static void liftedAtTheLastMoment() {
        for (int ring : new int[] {1, 2, 200}) {
            RotaryExchange x = ringing();
            x.set(RING, ring);
            if (ring > 1) {
                x.tick(ring - 1);
            }
            x.lift(1);
            x.tick(1);
            D.due("line(0, 0)", x.line(0, 0), TALKING);
            D.due("line(1, 0)", x.line(1, 0), CALLED);
            D.due("line(0, 5)", x.line(0, 5), 1);
            D.due("line(1, 5)", x.line(1, 5), 0);
        }
    }

    /** "(at this moment)": what the line did before does not count. */
    private static void liftedAndHungBeforeTheTick() {
        RotaryExchange x = ringing();
        x.lift(1);
        x.hang(1);
        x.tick(1);
        D.due("line(0, 0)", x.line(0, 0), RINGING);
        D.due("line(1, 0)", x.line(1, 0), RUNG);
        D.due("finder(0, 6)", x.finder(0, 6), 1);
        D.due("count(9)", x.count(9), 0);
        x.lift(1);
        D.due("still RINGING before the tick", x.line(0, 0), RINGING);
        x.tick(1);
        D.due("line(0, 0)", x.line(0, 0), TALKING);
    }

    private static void ringingBehindALoweredRing() {
        RotaryExchange x = ringing();
        x.tick(30);
        x.set(RING, 5);
        x.tick(1);
        D.due("line(0, 0)", x.line(0, 0), BUSY);
        D.due("line(1, 0)", x.line(1, 0), IDLE);
    }

    /** "its timer and its clearing count become 0 [..] and the meter of the line increases by 1" */
    private static void throughBeginsAt0() {
        RotaryExchange x = ringing();
        x.tick(17);
        x.lift(1);
        x.set(PERIOD, 1);
        x.set(CLEAR, 1);
        x.tick(1);
        D.due("finder(0, 0)", x.finder(0, 0), 8);
        D.due("finder(0, 6)", x.finder(0, 6), 0);
        D.due("finder(0, 7)", x.finder(0, 7), 0);
        D.due("line(0, 5)", x.line(0, 5), 1);
        D.due("count(9)", x.count(9), 1);
        x.tick(1);
        D.due("line(0, 5)", x.line(0, 5), 2);
    }

    /** "if it is at least CLEAR then, the finder becomes free, the line is parked, with the reason 6, and the called line becomes IDLE" */
    private static void clearsBehindClearTicks() {
        for (int clear : new int[] {1, 2, 100}) {
            RotaryExchange x = talking();
            x.set(CLEAR, clear);
            x.hang(1);
            if (clear > 1) {
                x.tick(clear - 1);
            }
            D.due("finder(0, 7)", x.finder(0, 7), clear - 1);
            D.due("line(0, 0)", x.line(0, 0), TALKING);
            D.due("line(1, 0)", x.line(1, 0), CALLED);
            x.tick(1);
            D.due("line(0, 0)", x.line(0, 0), PARKED);
            D.due("line(0, 6)", x.line(0, 6), 6);
            D.due("line(1, 0)", x.line(1, 0), IDLE);
            D.due("line(1, 6)", x.line(1, 6), 0);
            D.due("finder(0, 0)", x.finder(0, 0), 0);
            D.due("connector(1, 0)", x.connector(1, 0), -6);
            D.due("count(12)", x.count(12), 0);
        }
        RotaryExchange x = talking();
        x.hang(1);
        x.tick(7);
        x.set(CLEAR, 3);
        x.tick(1);
        D.due("behind a lowered CLEAR", x.line(0, 0), PARKED);
    }

    /** "If the called line is lifted, the clearing count becomes 0." */
    private static void clearingBeginsAnew() {
        RotaryExchange x = talking();
        x.hang(1);
        x.tick(9);
        D.due("finder(0, 7)", x.finder(0, 7), 9);
        x.lift(1);
        D.due("before the tick", x.finder(0, 7), 9);
        x.tick(1);
        D.due("behind the tick", x.finder(0, 7), 0);
        x.hang(1);
        x.tick(9);
        D.due("line(0, 0)", x.line(0, 0), TALKING);
        x.lift(1);
        x.hang(1);
        x.tick(1);
        D.due("lifted and hung between two ticks", x.line(0, 0), PARKED);
    }

    /** "If the finder is still THROUGH (whether the called line is on the hook or not), the timer increases by 1" */
    private static void timerRunsOnTheHookToo() {
        RotaryExchange x = talking();
        x.tick(3);
        D.due("lifted", x.finder(0, 6), 3);
        x.hang(1);
        x.tick(4);
        D.due("on the hook", x.finder(0, 6), 7);
        x.lift(1);
        x.tick(2);
        D.due("lifted", x.finder(0, 6), 9);
        x.set(PERIOD, 5);
        x.set(CLEAR, 100);
        x.hang(1);
        x.tick(1);
        D.due("metered on the hook", x.line(0, 5), 2);
    }

    /** "if it is a multiple of PERIOD then, the meter of the line increases by 1" */
    private static void metersEachPeriod() {
        for (int period : new int[] {1, 2, 7, 100}) {
            RotaryExchange x = talking();
            x.set(PERIOD, period);
            int before = x.finder(0, 6);
            D.due("timer", before, 0);
            x.tick(200);
            D.due("metered with " + period, x.line(0, 5), 1 + 200 / period);
            D.due("sum", x.count(5), 1 + 200 / period);
        }
        RotaryExchange x = talking();
        x.set(PERIOD, 100);
        x.tick(99);
        D.due("one before", x.line(0, 5), 1);
        x.tick(1);
        D.due("at it", x.line(0, 5), 2);
        x.set(PERIOD, 3);
        x.tick(1);
        D.due("101 is no multiple of 3", x.line(0, 5), 2);
        x.tick(1);
        D.due("102 is one", x.line(0, 5), 3);
    }

    /** The finder is not THROUGH any more in the tick that clears. */
    private static void noMeterInTheTickThatClears() {
        RotaryExchange x = talking();
        x.set(PERIOD, 1);
        x.set(CLEAR, 3);
        x.hang(1);
        x.tick(2);
        D.due("metered", x.line(0, 5), 3);
        x.tick(1);
        D.due("line(0, 0)", x.line(0, 0), PARKED);
        D.due("not metered", x.line(0, 5), 3);
    }

    /** SOUNDING: "the timer increases by 1 (it is 0 when this state begins); if it is at least WAIT then, the finder becomes free" */
    private static void soundsForWaitTicks() {
        for (int wait : new int[] {1, 2, 200}) {
            RotaryExchange x = withTone(20);
            x.dial(0, 5);
            x.tick(6);
            x.set(WAIT, wait);
            D.due("timer at first", x.finder(0, 6), 0);
            if (wait > 1) {
                x.tick(wait - 1);
            }
            D.due("timer", x.finder(0, 6), wait - 1);
            D.due("line(0, 0)", x.line(0, 0), VACANT);
            x.tick(1);
            D.due("line(0, 0)", x.line(0, 0), PARKED);
            D.due("finder(0, 0)", x.finder(0, 0), 0);
            D.due("finder(0, 3)", x.finder(0, 3), 0);
            D.due("count(12)", x.count(12), 0);
        }
    }

    /** "the line is parked (its reason stays)": 1, 2, 3 and 4 */
    private static void reasonStaysBehindEachTone() {
        for (int reason = 1; reason <= 4; reason++) {
            RotaryExchange x = new RotaryExchange();
            x.set(RING, 1);
            if (reason == 2) {
                D.bringTone(x, 1);
                x.dial(1, 3);
                x.tick(5);
            }
            D.bringTone(x, 0);
            x.dial(0, reason == 3 ? 5 : reason == 2 ? 3 : 1);
            x.dial(0, reason == 1 ? 1 : 2);
            D.waitFor(x, 0, reason == 3 ? VACANT : BUSY);
            D.due("reason", x.line(0, 6), reason);
            x.tick(20);
            D.due("line(0, 0)", x.line(0, 0), PARKED);
            D.due("reason behind it", x.line(0, 6), reason);
            D.waitFor(x, 0, HOWLING);
            D.due("reason while it howls", x.line(0, 6), reason);
        }
    }

    private static void soundingBehindALoweredWait() {
        RotaryExchange x = withTone(20);
        x.dial(0, 5);
        x.tick(6 + 15);
        x.set(WAIT, 4);
        x.tick(1);
        D.due("line(0, 0)", x.line(0, 0), PARKED);
    }

    /** The allotter: "if lines are WAITING that no finder seeks" */
    private static void noLineWaits() {
        RotaryExchange x = new RotaryExchange();
        x.tick(1000);
        D.due("count(3)", x.count(3), 2);
        x.lift(0);
        x.tick(1);
        D.due("line(0, 2)", x.line(0, 2), 0);
        x.tick(1000);
        x.hang(0);
        x.lift(0);
        x.tick(1);
        D.due("the pointer moved once", x.line(0, 2), 1);
    }

    /** "and a finder is free" */
    private static void noFinderIsFree() {
        RotaryExchange x = new RotaryExchange();
        x.setUp(1, 1);
        x.set(WAIT, 200);
        x.lift(4);
        x.tick(1);
        x.lift(3);
        x.tick(204);
        D.due("line(3, 2)", x.line(3, 2), -6);
        D.due("line(3, 7)", x.line(3, 7), 0);
        D.due("line(3, 0)", x.line(3, 0), WAITING);
        x.hang(4);
        D.due("no finder before the tick", x.line(3, 2), -6);
        x.tick(1);
        D.due("line(3, 2)", x.line(3, 2), 0);
        D.due("line(3, 7)", x.line(3, 7), -6);
    }

    /** "(So one finder is allotted in a tick at most.)" */
    private static void oneFinderInATick() {
        RotaryExchange x = new RotaryExchange();
        x.setUp(4, 1);
        for (int line = 0; line < 6; line++) {
            x.lift(line);
        }
        for (int tick = 1; tick <= 6; tick++) {
            x.tick(1);
            D.due("free finders", x.count(3), Math.max(0, 4 - tick));
            D.due("line(5, 7)", x.line(5, 7), Math.max(1, 5 - tick));
        }
    }

    /** "the first free one (also one that became free in this tick)": by giving up, by a tone's end, and by clearing. */
    private static void finderFreedInThisTick() {
        for (int state : new int[] {TONE, VACANT, TALKING}) {
            RotaryExchange x = new RotaryExchange();
            x.setUp(1, 1);
            D.bring(x, state);
            x.hang(1);
            x.lift(7);
            int ticks = x.until(5, PARKED, 100);
            x.tick(ticks - 1);
            D.due("line(7, 2)", x.line(7, 2), -6);
            x.tick(1);
            D.due("line(5, 0)", x.line(5, 0), PARKED);
            D.due("line(7, 2)", x.line(7, 2), 0);
            D.due("finder(0, 0)", x.finder(0, 0), 1);
            D.due("finder(0, 1)", x.finder(0, 1), 5);
            D.due("finder(0, 2)", x.finder(0, 2), 7);
        }
    }

    /** "behind the one that was allotted last, in circular order (at first, and behind setUp(), from the finder 0 on)" */
    private static void findersInCircularOrder() {
        for (int finders = 1; finders <= 4; finders++) {
            RotaryExchange x = new RotaryExchange();
            x.setUp(finders, 1);
            for (int call = 0; call < 9; call++) {
                x.lift(call);
                x.tick(1);
                D.due("finder of call " + call, x.line(call, 2), call % finders);
                x.hang(call);
            }
            x.setUp(finders, 1);
            x.lift(3);
            x.tick(1);
            D.due("behind setUp", x.line(3, 2), 0);
        }
        RotaryExchange x = new RotaryExchange();
        x.setUp(4, 1);
        for (int line = 0; line < 4; line++) {
            x.lift(line);
            x.tick(1);
        }
        x.hang(2);
        x.hang(1);
        x.lift(8);
        x.lift(9);
        x.tick(1);
        D.due("those that are not free are passed over", x.line(8, 2), 1);
        x.tick(1);
        D.due("the next one", x.line(9, 2), 2);
        x.hang(9);
        x.lift(9);
        x.tick(1);
        D.due("the one that was allotted last comes last", x.line(9, 2), 2);
    }

    /** "that line of them which was lifted first (by the order in which lift() was called)" */
    private static void firstLiftedFirst() {
        RotaryExchange x = new RotaryExchange();
        x.setUp(4, 1);
        int[] order = {11, 0, 15, 7};
        for (int line : order) {
            x.lift(line);
        }
        for (int i = 0; i < order.length; i++) {
            x.tick(1);
            D.due("line(" + order[i] + ", 2)", x.line(order[i], 2), i);
        }
    }

    private static void hungLinesDoNotWait() {
        RotaryExchange x = new RotaryExchange();
        x.lift(3);
        x.lift(2);
        x.hang(3);
        x.tick(1);
        D.due("line(2, 2)", x.line(2, 2), 0);
        x.lift(3);
        x.lift(4);
        x.hang(3);
        x.lift(3);
        D.due("its place is a new one", x.line(3, 7), 1);
        x.tick(1);
        D.due("line(4, 2)", x.line(4, 2), 1);
        D.due("line(3, 2)", x.line(3, 2), -6);
    }

    /** "The parking count of each PARKED line increases by 1; if it is at least HOWL then, it becomes HOWLING." */
    private static void parkedForHowlTicks() {
        for (int howl : new int[] {1, 2, 200}) {
            RotaryExchange x = withTone(1);
            x.set(HOWL, howl);
            x.tick(1);
            D.due("count behind the tick that parks", x.line(0, 8), howl == 1 ? 0 : 1);
            if (howl > 2) {
                x.tick(howl - 2);
            }
            D.due("state before", x.line(0, 0), howl == 1 ? HOWLING : PARKED);
            x.tick(1);
            D.due("line(0, 0)", x.line(0, 0), HOWLING);
            D.due("line(0, 8)", x.line(0, 8), 0);
        }
        RotaryExchange x = withTone(1);
        x.tick(12);
        x.set(HOWL, 3);
        x.tick(1);
        D.due("behind a lowered HOWL", x.line(0, 0), HOWLING);
    }

    /** A line that hang() parks has the count 0 until the next tick; several lines count on their own. */
    private static void parkedByHangBegins0() {
        RotaryExchange x = talking();
        x.set(HOWL, 1);
        x.hang(0);
        D.due("line(1, 0)", x.line(1, 0), PARKED);
        D.due("line(1, 8)", x.line(1, 8), 0);
        x.tick(1);
        D.due("line(1, 0)", x.line(1, 0), HOWLING);
        RotaryExchange two = talking();
        D.bringTalking(two, 4, 5);
        two.hang(0);
        two.tick(3);
        two.hang(4);
        two.tick(2);
        D.due("line(1, 8)", two.line(1, 8), 5);
        D.due("line(5, 8)", two.line(5, 8), 2);
    }

    private static void howlingForGood() {
        RotaryExchange x = withTone(1);
        x.tick(1000);
        D.due("line(0, 0)", x.line(0, 0), HOWLING);
        D.due("line(0, 1)", x.line(0, 1), 1);
        D.due("line(0, 6)", x.line(0, 6), 5);
        D.due("hang(0)", x.hang(0), HOWLING);
        D.due("lift(0)", x.lift(0), WAITING);
        x.tick(2);
        D.due("line(0, 0)", x.line(0, 0), TONE);
        D.due("line(0, 2)", x.line(0, 2), 1);
    }
}
