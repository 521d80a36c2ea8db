/** The boundary cases of the promises 13 (until) and 14 (attempt), a test for each sentence. */
public final class WhatIfBoundariesTest {
    private static final Due D = new Due("WhatIfBoundariesTest");
    private static final int WAITING = 1, TONE = 2, DIALING = 3, RINGING = 4, RUNG = 5, BUSY = 8, VACANT = 9, PARKED = 10, HOWLING = 11;

    public static void main(String[] args) {
        untilFromMost0();
        untilMostAndOneLess();
        untilMost1000();
        untilIsWhatTicksBring();
        untilOfTheFirstTime();
        untilNever();
        untilRanges();
        untilChangesNothing();
        attemptOfAllLines();
        attemptOfTheSameLine();
        attemptOfALineInEveryState();
        attemptFromALineInEveryState();
        attemptWithoutConnector();
        attemptUpTo500Ticks();
        attemptWithTheShortestWait();
        trialsBeginWithTheNextFinder();
        attemptRanges();
        attemptChangesNothing();
        timeOfACopyIsNotLimited();
        trialsStartAnew();
        D.end();
    }

    /** "most: 0 to 1000", "from 0 on": 0 ticks for the state that the line has. */
    private static void untilFromMost0() {
        for (int state = 0; state <= HOWLING; state++) {
            RotaryExchange x = new RotaryExchange();
            D.bring(x, state);
            for (int other = 0; other <= HOWLING; other++) {
                D.due("until(5, " + other + ", 0) while " + state, x.until(5, other, 0), other == state ? 0 : -6);
            }
            D.due("until(5, " + state + ", 1000)", x.until(5, state, 1000), 0);
        }
    }

    /** "NONE if it is more than most" */
    private static void untilMostAndOneLess() {
        RotaryExchange x = new RotaryExchange();
        x.lift(0);
        D.due("until(0, 2, 1)", x.until(0, TONE, 1), -6);
        D.due("until(0, 2, 2)", x.until(0, TONE, 2), 2);
        D.due("until(0, 2, 3)", x.until(0, TONE, 3), 2);
        D.due("until(0, 10, 21)", x.until(0, PARKED, 21), -6);
        D.due("until(0, 10, 22)", x.until(0, PARKED, 22), 22);
        x.tick(1);
        D.due("until(0, 2, 0)", x.until(0, TONE, 0), -6);
        D.due("until(0, 2, 1)", x.until(0, TONE, 1), 1);
    }

    /** Five lines share one finder, 202 ticks each: the line 4 is parked at 1010. */
    private static void untilMost1000() {
        RotaryExchange x = new RotaryExchange();
        x.setUp(1, 1);
        x.set(0, 200);
        for (int line = 0; line < 5; line++) {
            x.lift(line);
        }
        x.tick(9);
        D.due("until(4, 10, 1000)", x.until(4, PARKED, 1000), -6);
        x.tick(1);
        D.due("until(4, 10, 1000)", x.until(4, PARKED, 1000), 1000);
        D.due("until(4, 10, 999)", x.until(4, PARKED, 999), -6);
        D.due("until(4, 10, 1001)", x.until(4, PARKED, 1001), -2);
        x.tick(1);
        D.due("until(4, 10, 1000)", x.until(4, PARKED, 1000), 999);
        D.due("until(4, 10, 999)", x.until(4, PARKED, 999), 999);
        x.tick(998);
        D.due("line(4, 0)", x.line(4, 0), TONE);
        x.tick(1);
        D.due("line(4, 0)", x.line(4, 0), PARKED);
        D.due("time", x.count(0), 1010);
    }

    private static void untilIsWhatTicksBring() {
        RotaryExchange x = new RotaryExchange();
        D.bringTone(x, 5);
        x.dial(5, 1);
        x.dial(5, 2);
        int[] states = {DIALING, RINGING, BUSY, PARKED, HOWLING};
        for (int state : states) {
            int ticks = x.until(5, state, 1000);
            D.due("later than the one before", ticks > 0);
            if (ticks > 1) {
                x.tick(ticks - 1);
            }
            D.due("not yet " + state, x.line(5, 0) != state);
            D.due("one tick is left", x.until(5, state, 1000), 1);
            x.tick(1);
            D.due("line(5, 0)", x.line(5, 0), state);
        }
    }

    /** "the least number of ticks": the line 1 is RUNG at 3 by the line 5, IDLE at 4, and RUNG at 7 by the line 6. */
    private static void untilOfTheFirstTime() {
        RotaryExchange x = new RotaryExchange();
        x.setUp(2, 2);
        x.set(0, 200);
        x.set(1, 1);
        D.bringTone(x, 6);
        D.bringTone(x, 5);
        x.dial(5, 1);
        x.tick(3);
        D.due("LINKED", x.finder(1, 0), 5);
        x.dial(5, 2);
        x.dial(6, 1);
        x.dial(6, 2);
        D.due("until(1, 5, 1000)", x.until(1, RUNG, 1000), 3);
        D.due("until(1, 5, 2)", x.until(1, RUNG, 2), -6);
        D.due("until(1, 0, 1000)", x.until(1, 0, 1000), 0);
        x.tick(3);
        D.due("until(1, 5, 1000)", x.until(1, RUNG, 1000), 0);
        D.due("until(1, 0, 1000)", x.until(1, 0, 1000), 1);
        x.tick(1);
        D.due("until(1, 0, 1000)", x.until(1, 0, 1000), 0);
        D.due("until(1, 5, 1000)", x.until(1, RUNG, 1000), 3);
        D.due("until(1, 5, 2)", x.until(1, RUNG, 2), -6);
    }

    private static void untilNever() {
        RotaryExchange x = new RotaryExchange();
        D.due("until(0, 1, 1000)", x.until(0, WAITING, 1000), -6);
        D.bring(x, HOWLING);
        D.due("until(5, 0, 1000)", x.until(5, 0, 1000), -6);
        D.due("until(5, 10, 1000)", x.until(5, PARKED, 1000), -6);
    }

    /** "NO_SUCH if there is no such line; BAD_VALUE if another argument is out of range" */
    private static void untilRanges() {
        RotaryExchange x = new RotaryExchange();
        for (int line : new int[] {-1, 16, Integer.MIN_VALUE, Integer.MAX_VALUE}) {
            D.due("until(" + line + ", 0, 0)", x.until(line, 0, 0), -1);
            D.due("until(" + line + ", 12, -1)", x.until(line, 12, -1), -1);
        }
        for (int state : new int[] {-1, 12, Integer.MIN_VALUE, Integer.MAX_VALUE}) {
            D.due("until(15, " + state + ", 1000)", x.until(15, state, 1000), -2);
        }
        for (int most : new int[] {-1, 1001, Integer.MIN_VALUE, Integer.MAX_VALUE}) {
            D.due("until(15, 0, " + most + ")", x.until(15, 0, most), -2);
            D.due("until(15, 1, " + most + ")", x.until(15, 1, most), -2);
        }
        D.due("until(15, 0, 1000)", x.until(15, 0, 1000), 0);
        D.due("until(15, 11, 1000)", x.until(15, 11, 1000), -6);
    }

    /** "what if: in a copy" */
    private static void untilChangesNothing() {
        RotaryExchange asked = new RotaryExchange();
        RotaryExchange twin = new RotaryExchange();
        for (RotaryExchange x : new RotaryExchange[] {asked, twin}) {
            D.bringRinging(x, 5, 1);
            x.lift(9);
            x.save(0);
            Due.put(x, "l7");
        }
        asked.until(5, HOWLING, 1000);
        asked.until(9, 0, 1000);
        D.same("behind until", Due.everything(asked), Due.everything(twin));
        D.due("count(14)", asked.count(14), 2);
        D.due("restore(1)", asked.restore(1), -5);
    }

    /** From the line 0 with a finder at 0: a tick for the allotter, one to be READY, and 3 beside the pulses. */
    private static void attemptOfAllLines() {
        RotaryExchange x = new RotaryExchange();
        for (int to = 1; to < 16; to++) {
            D.due("attempt(0, " + to + ", 0)", x.attempt(0, to, 0), RINGING);
            D.due("attempt(0, " + to + ", 1)", x.attempt(0, to, 1), 5 + to / 4 + 1 + to % 4 + 1);
        }
        for (int from = 1; from < 16; from++) {
            D.due("attempt(" + from + ", 0, 1)", x.attempt(from, 0, 1), from + 5 + 2);
        }
    }

    /** "to: any line, also the same one" */
    private static void attemptOfTheSameLine() {
        RotaryExchange x = new RotaryExchange();
        for (int line = 0; line < 16; line++) {
            D.due("attempt(" + line + ", itself, 0)", x.attempt(line, line, 0), BUSY);
            D.due("attempt(" + line + ", itself, 1)", x.attempt(line, line, 1), line + 5 + line / 4 + 1 + line % 4 + 1);
        }
    }

    private static void attemptOfALineInEveryState() {
        for (int state = 0; state <= HOWLING; state++) {
            RotaryExchange x = new RotaryExchange();
            x.setUp(4, 3);
            D.bring(x, state);
            x.set(0, 200);
            x.set(1, 200);
            D.due("attempt of a line that is " + state, x.attempt(9, 5, 0), state == 0 ? RINGING : BUSY);
        }
    }

    /** "from: an IDLE line", "NOT_POSSIBLE if from is not IDLE" */
    private static void attemptFromALineInEveryState() {
        for (int state = 0; state <= HOWLING; state++) {
            RotaryExchange x = new RotaryExchange();
            D.bring(x, state);
            D.due("attempt from a line that is " + state, x.attempt(5, 9, 0), state == 0 ? RINGING : -5);
            D.due("attempt from a line that is " + state, x.attempt(5, 9, 1), state == 0 ? 5 + 5 + 3 + 2 : -5);
        }
    }

    /** The trial ends as the line becomes BUSY because no connector is free. */
    private static void attemptWithoutConnector() {
        RotaryExchange x = new RotaryExchange();
        D.bringTalking(x, 5, 12);
        D.due("attempt(0, 13, 0)", x.attempt(0, 13, 0), BUSY);
        D.due("attempt(0, 13, 1)", x.attempt(0, 13, 1), 2 + 1 + 4 + 1);
        x.setUp(2, 2);
        D.bringTalking(x, 5, 12);
        D.due("attempt(0, 13, 0)", x.attempt(0, 13, 0), RINGING);
        D.due("attempt(0, 13, 1)", x.attempt(0, 13, 1), 2 + 1 + 4 + 2 + 1 + 2);
    }

    /** Three lines share the only finder before the line 3, which has the tone behind 8 + 3 * wait ticks. */
    private static RotaryExchange withThreeBefore(int wait) {
        RotaryExchange x = new RotaryExchange();
        x.setUp(1, 1);
        x.set(0, wait);
        x.lift(0);
        x.lift(1);
        x.lift(2);
        return x;
    }

    /** "or behind 500 ticks" */
    private static void attemptUpTo500Ticks() {
        RotaryExchange x = withThreeBefore(162);
        D.due("RINGING behind 500 ticks", x.attempt(3, 4, 0), RINGING);
        D.due("RINGING behind 500 ticks", x.attempt(3, 4, 1), 500);
        D.due("RINGING behind 501 ticks", x.attempt(3, 5, 0), DIALING);
        D.due("RINGING behind 501 ticks", x.attempt(3, 5, 1), 500);
        x.tick(1);
        D.due("RINGING behind 499 ticks", x.attempt(3, 4, 0), RINGING);
        D.due("RINGING behind 499 ticks", x.attempt(3, 4, 1), 499);
        x = withThreeBefore(164);
        D.due("the tone behind 500 ticks", x.attempt(3, 4, 0), TONE);
        D.due("the tone behind 500 ticks", x.attempt(3, 4, 1), 500);
        x = withThreeBefore(165);
        D.due("still WAITING", x.attempt(3, 4, 0), WAITING);
        D.due("still WAITING", x.attempt(3, 4, 1), 500);
    }

    /** "as soon as it is TONE (behind a tick)": with WAIT at 1 the digits are there in time. */
    private static void attemptWithTheShortestWait() {
        RotaryExchange x = new RotaryExchange();
        x.set(0, 1);
        x.set(1, 1);
        D.due("attempt(0, 15, 0)", x.attempt(0, 15, 0), RINGING);
        D.due("attempt(0, 15, 1)", x.attempt(0, 15, 1), 5 + 4 + 4);
        D.due("attempt(0, 0, 0)", x.attempt(0, 0, 0), BUSY);
        D.due("attempt(0, 0, 1)", x.attempt(0, 0, 1), 5 + 1 + 1);
    }

    /** The copy knows which finder was allotted last: the finder 0 stands at the line 9, the finder 1 at the line 0. */
    private static void trialsBeginWithTheNextFinder() {
        RotaryExchange x = new RotaryExchange();
        D.bringTone(x, 9);
        x.hang(9);
        D.due("by the finder 1", x.attempt(9, 0, 1), 9 + 5 + 1 + 1);
        x.lift(8);
        x.tick(1);
        x.hang(8);
        D.due("by the finder 0", x.attempt(9, 0, 1), 5 + 1 + 1);
        D.due("by the finder 0 again", x.attempt(9, 0, 1), 5 + 1 + 1);
        x.lift(9);
        D.due("until(9, 2, 100)", x.until(9, TONE, 100), 2);
        x.tick(2);
        D.due("line(9, 0)", x.line(9, 0), TONE);
    }

    /** "NO_SUCH if there is no such line; BAD_VALUE if what is out of range" */
    private static void attemptRanges() {
        RotaryExchange x = new RotaryExchange();
        for (int line : new int[] {-1, 16, Integer.MIN_VALUE, Integer.MAX_VALUE}) {
            D.due("attempt(" + line + ", 0, 0)", x.attempt(line, 0, 0), -1);
            D.due("attempt(0, " + line + ", 0)", x.attempt(0, line, 0), -1);
            D.due("attempt(" + line + ", " + line + ", 2)", x.attempt(line, line, 2), -1);
        }
        for (int what : new int[] {-1, 2, Integer.MIN_VALUE, Integer.MAX_VALUE}) {
            D.due("attempt(0, 15, " + what + ")", x.attempt(0, 15, what), -2);
        }
    }

    /** "Tries a call in a copy" */
    private static void attemptChangesNothing() {
        RotaryExchange asked = new RotaryExchange();
        RotaryExchange twin = new RotaryExchange();
        for (RotaryExchange x : new RotaryExchange[] {asked, twin}) {
            D.bringTalking(x, 5, 1);
            x.lift(9);
            x.tick(2);
            x.save(1);
            Due.put(x, "l7,");
        }
        asked.attempt(3, 12, 0);
        asked.attempt(3, 1, 1);
        D.same("behind attempt", Due.everything(asked), Due.everything(twin));
        D.due("count(14)", asked.count(14), 3);
        D.due("restore(0)", asked.restore(0), -5);
        D.due("restore(1)", asked.restore(1), asked.count(0));
    }

    /** "in a copy, whose time is not limited": at 100000 as at 0. */
    private static void timeOfACopyIsNotLimited() {
        RotaryExchange x = new RotaryExchange();
        Due.passTo(x, 99999);
        x.lift(3);
        D.due("until(3, 2, 100)", x.until(3, TONE, 100), 5);
        x.tick(1);
        D.due("tick(1)", x.tick(1), -5);
        D.due("until(3, 2, 100)", x.until(3, TONE, 100), 4);
        D.due("until(3, 11, 1000)", x.until(3, HOWLING, 1000), 4 + 20 + 14);
        D.due("until(15, 1, 1000)", x.until(15, WAITING, 1000), -6);
        D.due("attempt(9, 15, 0)", x.attempt(9, 15, 0), RINGING);
        D.due("attempt(9, 15, 1)", x.attempt(9, 15, 1), 9 + 5 + 4 + 4);
        D.due("count(0)", x.count(0), 100000);
        D.due("tick(1)", x.tick(1), -5);
    }

    /** A trial takes over nothing from the one before. */
    private static void trialsStartAnew() {
        RotaryExchange x = new RotaryExchange();
        int first = x.attempt(5, 1, 1);
        x.until(5, HOWLING, 1000);
        x.attempt(9, 9, 0);
        D.due("the same trial", x.attempt(5, 1, 1), first);
        x.lift(5);
        D.due("until(5, 2, 100)", x.until(5, TONE, 100), 7);
        D.due("until(5, 2, 100)", x.until(5, TONE, 100), 7);
        D.due("until(5, 9, 1000)", x.until(5, VACANT, 1000), -6);
        D.due("until(5, 2, 100)", x.until(5, TONE, 100), 7);
    }
}
