/** Promises 13 and 14: until, attempt. */
public final class WhatIfTest {
    private static final Due D = new Due("WhatIfTest");

    public static void main(String[] args) {
        untilCounts();
        untilRefuses();
        attemptTries();
        attemptOfItself();
        attemptWaits();
        attemptRefuses();
        beyondTheLastTime();
        D.end();
    }

    private static void untilCounts() {
        RotaryExchange x = new RotaryExchange();
        D.due("until(0, 0, 0)", x.until(0, 0, 0), 0);
        D.due("until(0, 1, 0)", x.until(0, 1, 0), -6);
        D.due("until(0, 1, 1000)", x.until(0, 1, 1000), -6);
        x.lift(3);
        D.due("until(3, 2, 4)", x.until(3, 2, 4), -6);
        D.due("until(3, 2, 5)", x.until(3, 2, 5), 5);
        D.due("until(3, 10, 1000)", x.until(3, 10, 1000), 25);
        D.due("until(3, 11, 1000)", x.until(3, 11, 1000), 39);
        D.due("count(0)", x.count(0), 0);
        D.due("line(3, 0)", x.line(3, 0), 1);
        x.tick(39);
        D.due("line(3, 0)", x.line(3, 0), 11);
        D.due("until(3, 11, 0)", x.until(3, 11, 0), 0);
        D.due("until(3, 0, 1000)", x.until(3, 0, 1000), -6);
    }

    private static void untilRefuses() {
        RotaryExchange x = new RotaryExchange();
        D.due("until(16, 12, -1)", x.until(16, 12, -1), -1);
        D.due("until(-1, 0, 0)", x.until(-1, 0, 0), -1);
        for (int state : new int[] {-1, 12, Integer.MIN_VALUE, Integer.MAX_VALUE}) {
            D.due("until(0, " + state + ", 0)", x.until(0, state, 0), -2);
        }
        for (int most : new int[] {-1, 1001, Integer.MIN_VALUE, Integer.MAX_VALUE}) {
            D.due("until(0, 0, " + most + ")", x.until(0, 0, most), -2);
        }
    }

    private static void attemptTries() {
        RotaryExchange x = new RotaryExchange();
        D.due("attempt(0, 15, 0)", x.attempt(0, 15, 0), 4);
        D.due("attempt(0, 15, 1)", x.attempt(0, 15, 1), 13);
        D.due("attempt(2, 4, 1)", x.attempt(2, 4, 1), 10);
        D.due("count(0)", x.count(0), 0);
        D.due("count(6)", x.count(6), 0);
        D.due("line(0, 0)", x.line(0, 0), 0);
        D.due("finder(0, 1)", x.finder(0, 1), 0);
        D.bringTone(x, 15);
        D.due("attempt(0, 15, 0)", x.attempt(0, 15, 0), 8);
        x.dial(15, 4);
        x.tick(6);
        D.due("attempt(0, 14, 0)", x.attempt(0, 14, 0), 8);
        D.due("attempt(0, 14, 1)", x.attempt(0, 14, 1), 8);
    }

    private static void attemptOfItself() {
        RotaryExchange x = new RotaryExchange();
        D.due("attempt(7, 7, 0)", x.attempt(7, 7, 0), 8);
        D.due("attempt(7, 7, 1)", x.attempt(7, 7, 1), 9 + 1 + 2 + 1 + 1 + 4);
    }

    /** The only finder is held by a conversation, so that the trial takes all of its ticks. */
    private static void attemptWaits() {
        RotaryExchange x = new RotaryExchange();
        x.setUp(1, 1);
        D.bringTalking(x, 0, 1);
        D.due("attempt(2, 3, 0)", x.attempt(2, 3, 0), 1);
        D.due("attempt(2, 3, 1)", x.attempt(2, 3, 1), 500);
        x.hang(1);
        D.due("attempt(2, 1, 0)", x.attempt(2, 1, 0), 4);
        D.due("attempt(2, 1, 1)", x.attempt(2, 1, 1), 10 + 3 + 3 + 3);
    }

    private static void attemptRefuses() {
        RotaryExchange x = new RotaryExchange();
        D.due("attempt(16, 0, 2)", x.attempt(16, 0, 2), -1);
        D.due("attempt(0, 16, 2)", x.attempt(0, 16, 2), -1);
        D.due("attempt(-1, 0, 0)", x.attempt(-1, 0, 0), -1);
        D.due("attempt(0, -1, 0)", x.attempt(0, -1, 0), -1);
        x.lift(0);
        D.due("attempt(0, 1, -1)", x.attempt(0, 1, -1), -2);
        D.due("attempt(0, 1, 2)", x.attempt(0, 1, 2), -2);
        D.due("attempt(0, 1, 0)", x.attempt(0, 1, 0), -5);
        x.hang(0);
        D.bringRinging(x, 0, 1);
        D.due("attempt(1, 2, 0)", x.attempt(1, 2, 0), -5);
    }

    private static void beyondTheLastTime() {
        RotaryExchange x = new RotaryExchange();
        for (int i = 0; i < 100; i++) {
            x.tick(1000);
        }
        D.due("attempt(0, 15, 0)", x.attempt(0, 15, 0), 4);
        x.lift(0);
        D.due("until(0, 11, 1000)", x.until(0, 11, 1000), 36);
        D.due("count(0)", x.count(0), 100000);
    }
}
