/** Promise 7: the steps of the finders, the allotter, and the lines that are parked. */
public final class TickTest {
    private static final Due D = new Due("TickTest");

    public static void main(String[] args) {
        seeking();
        readyGivesUp();
        risingAndHunting();
        huntingBehindOthers();
        aConnectorFreedInTheSameTick();
        linkedGivesUp();
        steppingToVacant();
        steppingToBusy();
        callingTimesOut();
        throughMeters();
        throughClears();
        sounding();
        allotting();
        allottingFirstLiftedFirst();
        howling();
        settingsOfTheMoment();
        D.end();
    }

    private static void state(RotaryExchange x, int finder, int... want) {
        for (int what = 0; what < want.length; what++) {
            D.due("finder(" + finder + ", " + what + ") at " + x.count(0), x.finder(finder, what), want[what]);
        }
    }

    private static void seeking() {
        RotaryExchange x = new RotaryExchange();
        x.setUp(1, 1);
        x.lift(3);
        state(x, 0, 0, 0, -6, 0, -6, 0, 0, 0);
        x.tick(1);
        state(x, 0, 1, 0, 3, 0, -6, 0, 0, 0);
        x.tick(3);
        state(x, 0, 1, 3, 3, 0, -6, 0, 0, 0);
        D.due("line(3, 0)", x.line(3, 0), 1);
        D.due("count(7)", x.count(7), 0);
        x.tick(1);
        state(x, 0, 2, 3, 3, 0, -6, 0, 0, 0);
        D.due("line(3, 0)", x.line(3, 0), 2);
        D.due("count(7)", x.count(7), 1);
        x.hang(3);
        x.lift(2);
        x.tick(1);
        x.tick(12);
        state(x, 0, 1, 15, 2);
        x.tick(1);
        state(x, 0, 1, 0, 2);
        x.tick(2);
        state(x, 0, 1, 2, 2);
        x.tick(1);
        state(x, 0, 2, 2, 2);
    }

    private static void readyGivesUp() {
        RotaryExchange x = new RotaryExchange();
        x.lift(0);
        x.tick(2);
        state(x, 0, 2, 0, 0, 0, -6, 0, 0, 0);
        x.tick(19);
        state(x, 0, 2, 0, 0, 0, -6, 0, 19, 0);
        D.due("count(12)", x.count(12), 0);
        x.tick(1);
        state(x, 0, 0, 0, -6, 0, -6, 0, 0, 0);
        D.due("line(0, 0)", x.line(0, 0), 10);
        D.due("line(0, 6)", x.line(0, 6), 5);
        D.due("line(0, 8)", x.line(0, 8), 1);
        D.due("line(0, 2)", x.line(0, 2), -6);
        D.due("count(12)", x.count(12), 1);
        D.due("count(3)", x.count(3), 2);
    }

    private static void risingAndHunting() {
        RotaryExchange x = new RotaryExchange();
        x.lift(0);
        x.tick(12);
        state(x, 0, 2, 0, 0, 0, -6, 0, 10, 0);
        x.dial(0, 4);
        x.tick(1);
        state(x, 0, 3, 0, 0, 0, -6, 4, 0, 0);
        D.due("line(0, 0)", x.line(0, 0), 3);
        x.tick(1);
        state(x, 0, 3, 0, 0, 1, -6, 3, 0, 0);
        x.tick(2);
        state(x, 0, 3, 0, 0, 3, -6, 1, 0, 0);
        x.tick(1);
        state(x, 0, 4, 0, 0, 4, 0, 0, 0, 0);
        D.due("connector(4, 0)", x.connector(4, 0), -6);
        x.tick(1);
        state(x, 0, 5, 0, 0, 4, 0, 0, 0, 0);
        D.due("connector(4, 0)", x.connector(4, 0), 0);
        D.due("count(4)", x.count(4), 3);
        x.tick(1);
        state(x, 0, 5, 0, 0, 4, 0, 0, 1, 0);
        x.hang(0);
        x.lift(0);
        x.tick(30);
        D.bringTone(x, 1);
        x.dial(1, 5);
        x.tick(6);
        D.due("line(1, 0)", x.line(1, 0), 9);
        D.due("line(1, 6)", x.line(1, 6), 3);
        D.due("count(11)", x.count(11), 1);
        int finder = x.line(1, 2);
        state(x, finder, 9, 1, 1, 5, -6, 0, 0, 0);
    }

    /** With 3 finders and 2 connectors: the third one hunts in vain. */
    private static void huntingBehindOthers() {
        RotaryExchange x = new RotaryExchange();
        x.setUp(3, 2);
        for (int line = 0; line < 3; line++) {
            D.bringTone(x, line);
            x.dial(line, 2);
            x.tick(1);
        }
        x.tick(1);
        state(x, 0, 5, 0, 0, 2, 0);
        D.due("finder(2, 0)", x.finder(2, 0), 3);
        x.tick(1);
        state(x, 2, 4, 2, 2, 2, 0, 0, 0, 0);
        D.due("connector(2, 1)", x.connector(2, 1), 1);
        x.tick(1);
        state(x, 2, 4, 2, 2, 2, 1, 0, 0, 0);
        D.due("count(10)", x.count(10), 0);
        x.tick(1);
        state(x, 2, 9, 2, 2, 2, -6, 0, 0, 0);
        D.due("line(2, 0)", x.line(2, 0), 8);
        D.due("line(2, 6)", x.line(2, 6), 2);
        D.due("count(10)", x.count(10), 1);
        D.due("count(4)", x.count(4), 6);
        D.due("connector(2, 0)", x.connector(2, 0), 0);
        D.due("connector(2, 1)", x.connector(2, 1), 1);
    }

    /** The finder 0 frees its connector before the finder 1 looks, in the same tick. */
    private static void aConnectorFreedInTheSameTick() {
        RotaryExchange x = new RotaryExchange();
        x.set(0, 5);
        x.lift(0);
        x.lift(1);
        x.tick(2);
        x.dial(0, 1);
        x.tick(1);
        x.tick(1);
        x.dial(1, 3);
        x.tick(1);
        D.due("finder(0, 0)", x.finder(0, 0), 5);
        x.hang(1);
        x.lift(1);
        x.tick(1);
        x.tick(1);
        x.dial(1, 1);
        x.tick(1);
        x.tick(1);
        D.due("finder(1, 0)", x.finder(1, 0), 4);
        D.due("finder(0, 6)", x.finder(0, 6), 4);
        x.tick(1);
        D.due("line(0, 0)", x.line(0, 0), 10);
        D.due("finder(1, 0)", x.finder(1, 0), 5);
        D.due("connector(1, 0)", x.connector(1, 0), 1);
    }

    private static void linkedGivesUp() {
        RotaryExchange x = new RotaryExchange();
        x.set(0, 3);
        x.lift(0);
        x.tick(2);
        x.dial(0, 1);
        x.tick(3);
        state(x, 0, 5, 0, 0, 1, 0, 0, 0, 0);
        x.tick(2);
        state(x, 0, 5, 0, 0, 1, 0, 0, 2, 0);
        x.tick(1);
        state(x, 0, 0, 0, -6, 0, -6, 0, 0, 0);
        D.due("line(0, 0)", x.line(0, 0), 10);
        D.due("line(0, 6)", x.line(0, 6), 5);
        D.due("count(12)", x.count(12), 1);
        D.due("count(4)", x.count(4), 4);
    }

    private static void steppingToVacant() {
        RotaryExchange x = new RotaryExchange();
        x.lift(0);
        x.tick(2);
        x.dial(0, 2);
        x.dial(0, 5);
        x.tick(5);
        state(x, 0, 6, 0, 0, 2, 0, 5, 0, 0);
        x.tick(4);
        state(x, 0, 6, 0, 0, 2, 0, 1, 0, 0);
        D.due("line(0, 0)", x.line(0, 0), 3);
        x.tick(1);
        state(x, 0, 9, 0, 0, 2, -6, 0, 0, 0);
        D.due("line(0, 0)", x.line(0, 0), 9);
        D.due("line(0, 6)", x.line(0, 6), 3);
        D.due("count(11)", x.count(11), 1);
        D.due("count(4)", x.count(4), 4);
        D.due("count(8)", x.count(8), 0);
    }

    private static void steppingToBusy() {
        RotaryExchange x = new RotaryExchange();
        x.lift(7);
        x.lift(0);
        x.tick(3);
        D.due("line(0, 0)", x.line(0, 0), 2);
        x.dial(0, 2);
        x.dial(0, 4);
        x.tick(8);
        state(x, 1, 6, 0, 0, 2, 0, 1, 0, 0);
        x.tick(1);
        state(x, 1, 9, 0, 0, 2, -6, 0, 0, 0);
        D.due("line(0, 0)", x.line(0, 0), 8);
        D.due("line(0, 6)", x.line(0, 6), 1);
        D.due("count(10)", x.count(10), 1);
        D.due("count(4)", x.count(4), 4);
        D.due("line(7, 0)", x.line(7, 0), 2);
        x.hang(0);
        D.bringTone(x, 0);
        x.dial(0, 1);
        x.dial(0, 1);
        x.tick(5);
        D.due("line(0, 0)", x.line(0, 0), 8);
        D.due("line(0, 6)", x.line(0, 6), 1);
        D.due("count(10)", x.count(10), 2);
    }

    private static void callingTimesOut() {
        RotaryExchange x = new RotaryExchange();
        x.set(1, 3);
        x.lift(0);
        x.tick(2);
        x.dial(0, 4);
        x.dial(0, 4);
        x.tick(11);
        state(x, 0, 7, 0, 0, 4, 0, 0, 0, 0);
        D.due("line(15, 0)", x.line(15, 0), 5);
        D.due("line(0, 0)", x.line(0, 0), 4);
        D.due("count(8)", x.count(8), 1);
        x.tick(2);
        state(x, 0, 7, 0, 0, 4, 0, 0, 2, 0);
        x.tick(1);
        state(x, 0, 9, 0, 0, 4, -6, 0, 0, 0);
        D.due("line(0, 0)", x.line(0, 0), 8);
        D.due("line(0, 6)", x.line(0, 6), 4);
        D.due("line(15, 0)", x.line(15, 0), 0);
        D.due("line(15, 2)", x.line(15, 2), -6);
        D.due("line(15, 6)", x.line(15, 6), 0);
        D.due("count(10)", x.count(10), 1);
        D.due("count(4)", x.count(4), 4);
        liftedAtTheLastMoment();
    }

    private static void liftedAtTheLastMoment() {
        RotaryExchange x = new RotaryExchange();
        x.set(1, 3);
        D.bringRinging(x, 0, 15);
        x.tick(2);
        x.lift(15);
        x.tick(1);
        D.due("line(0, 0)", x.line(0, 0), 6);
        D.due("line(15, 0)", x.line(15, 0), 7);
    }

    private static void throughMeters() {
        RotaryExchange x = new RotaryExchange();
        x.set(2, 4);
        x.set(3, 6);
        D.bringRinging(x, 0, 15);
        x.tick(1);
        x.lift(15);
        x.tick(1);
        state(x, 0, 8, 0, 0, 4, 0, 0, 0, 0);
        D.due("line(0, 5)", x.line(0, 5), 1);
        D.due("count(9)", x.count(9), 1);
        x.tick(3);
        D.due("line(0, 5)", x.line(0, 5), 1);
        x.tick(1);
        D.due("line(0, 5)", x.line(0, 5), 2);
        state(x, 0, 8, 0, 0, 4, 0, 0, 4, 0);
        x.hang(15);
        x.tick(4);
        D.due("line(0, 5)", x.line(0, 5), 3);
        state(x, 0, 8, 0, 0, 4, 0, 0, 8, 4);
        D.due("line(15, 5)", x.line(15, 5), 0);
        D.due("count(5)", x.count(5), 3);
        x.hang(0);
        D.bringTalking(x, 15, 0);
        D.due("line(15, 5)", x.line(15, 5), 1);
        D.due("count(5)", x.count(5), 4);
        D.due("count(9)", x.count(9), 2);
    }

    private static void throughClears() {
        RotaryExchange x = new RotaryExchange();
        x.set(3, 2);
        x.set(2, 2);
        D.bringTalking(x, 0, 1);
        x.hang(1);
        x.tick(1);
        state(x, 0, 8, 0, 0, 1, 0, 0, 1, 1);
        x.lift(1);
        x.tick(1);
        state(x, 0, 8, 0, 0, 1, 0, 0, 2, 0);
        D.due("line(0, 5)", x.line(0, 5), 2);
        x.hang(1);
        x.tick(1);
        state(x, 0, 8, 0, 0, 1, 0, 0, 3, 1);
        x.tick(1);
        state(x, 0, 0, 0, -6, 0, -6, 0, 0, 0);
        D.due("line(0, 5)", x.line(0, 5), 2);
        D.due("line(0, 0)", x.line(0, 0), 10);
        D.due("line(0, 6)", x.line(0, 6), 6);
        D.due("line(0, 8)", x.line(0, 8), 1);
        D.due("line(1, 0)", x.line(1, 0), 0);
        D.due("line(1, 6)", x.line(1, 6), 0);
        D.due("line(1, 2)", x.line(1, 2), -6);
        D.due("count(12)", x.count(12), 0);
        D.due("count(4)", x.count(4), 4);
    }

    private static void sounding() {
        RotaryExchange x = new RotaryExchange();
        x.set(0, 3);
        x.lift(0);
        x.tick(2);
        x.dial(0, 6);
        x.dial(0, 1);
        x.tick(7);
        state(x, 0, 9, 0, 0, 6, -6, 0, 0, 0);
        D.due("line(0, 4)", x.line(0, 4), 1);
        x.tick(2);
        state(x, 0, 9, 0, 0, 6, -6, 0, 2, 0);
        D.due("line(0, 0)", x.line(0, 0), 9);
        x.tick(1);
        state(x, 0, 0, 0, -6, 0, -6, 0, 0, 0);
        D.due("line(0, 0)", x.line(0, 0), 10);
        D.due("line(0, 6)", x.line(0, 6), 3);
        D.due("line(0, 4)", x.line(0, 4), 0);
        D.due("count(12)", x.count(12), 0);
    }

    private static void allotting() {
        RotaryExchange x = new RotaryExchange();
        x.setUp(3, 1);
        for (int line = 0; line < 5; line++) {
            x.lift(line);
        }
        x.tick(1);
        D.due("count(3)", x.count(3), 2);
        x.tick(1);
        D.due("count(3)", x.count(3), 1);
        x.tick(1);
        D.due("count(3)", x.count(3), 0);
        for (int line = 0; line < 5; line++) {
            D.due("line(" + line + ", 2)", x.line(line, 2), line < 3 ? line : -6);
        }
        D.due("line(3, 7)", x.line(3, 7), 0);
        D.due("line(4, 7)", x.line(4, 7), 1);
        x.hang(1);
        x.tick(1);
        D.due("line(3, 2)", x.line(3, 2), 1);
        x.hang(0);
        x.hang(2);
        x.tick(1);
        D.due("line(4, 2)", x.line(4, 2), 2);
        x.hang(4);
        x.lift(9);
        x.tick(1);
        D.due("line(9, 2)", x.line(9, 2), 0);
        x.hang(9);
        x.lift(9);
        x.tick(1);
        D.due("line(9, 2)", x.line(9, 2), 2);
        theOneAllottedLastAgain();
        freedInThisTick();
    }

    private static void theOneAllottedLastAgain() {
        RotaryExchange x = new RotaryExchange();
        x.lift(0);
        x.tick(1);
        x.lift(1);
        x.tick(1);
        x.hang(1);
        x.lift(2);
        x.tick(1);
        D.due("line(2, 2)", x.line(2, 2), 1);
        x.hang(2);
        x.hang(0);
        x.lift(3);
        x.tick(1);
        D.due("line(3, 2)", x.line(3, 2), 0);
    }

    private static void freedInThisTick() {
        RotaryExchange x = new RotaryExchange();
        x.setUp(1, 1);
        x.set(0, 2);
        x.lift(0);
        x.lift(5);
        x.tick(3);
        D.due("line(5, 2)", x.line(5, 2), -6);
        x.tick(1);
        D.due("line(0, 0)", x.line(0, 0), 10);
        D.due("line(5, 2)", x.line(5, 2), 0);
        D.due("finder(0, 0)", x.finder(0, 0), 1);
        D.due("finder(0, 1)", x.finder(0, 1), 0);
    }

    private static void allottingFirstLiftedFirst() {
        RotaryExchange x = new RotaryExchange();
        x.setUp(1, 1);
        x.lift(9);
        x.lift(2);
        x.lift(12);
        x.hang(9);
        x.lift(9);
        D.due("line(2, 7)", x.line(2, 7), 0);
        D.due("line(12, 7)", x.line(12, 7), 1);
        D.due("line(9, 7)", x.line(9, 7), 2);
        x.tick(1);
        D.due("line(2, 2)", x.line(2, 2), 0);
        D.due("line(2, 7)", x.line(2, 7), -6);
        D.due("line(12, 7)", x.line(12, 7), 0);
        x.hang(2);
        x.tick(1);
        D.due("line(12, 2)", x.line(12, 2), 0);
        x.hang(12);
        x.tick(1);
        D.due("line(9, 2)", x.line(9, 2), 0);
    }

    private static void howling() {
        RotaryExchange x = new RotaryExchange();
        x.set(4, 3);
        D.bringTalking(x, 0, 1);
        x.hang(0);
        D.due("line(1, 0)", x.line(1, 0), 10);
        D.due("line(1, 8)", x.line(1, 8), 0);
        x.tick(1);
        D.due("line(1, 8)", x.line(1, 8), 1);
        x.tick(1);
        D.due("line(1, 8)", x.line(1, 8), 2);
        x.tick(1);
        D.due("line(1, 0)", x.line(1, 0), 11);
        D.due("line(1, 8)", x.line(1, 8), 0);
        x.tick(100);
        D.due("line(1, 0)", x.line(1, 0), 11);
        D.due("line(1, 6)", x.line(1, 6), 6);
        D.due("hang(1)", x.hang(1), 11);
        x.set(4, 1);
        x.set(0, 1);
        x.lift(0);
        x.tick(2);
        D.due("line(0, 0)", x.line(0, 0), 2);
        x.tick(1);
        D.due("line(0, 0)", x.line(0, 0), 11);
    }

    /** A count that is above a setting that was lowered meanwhile is at least this setting. */
    private static void settingsOfTheMoment() {
        RotaryExchange x = new RotaryExchange();
        x.lift(0);
        x.tick(12);
        x.set(0, 5);
        x.tick(1);
        D.due("line(0, 0)", x.line(0, 0), 10);
        x.tick(6);
        x.set(4, 2);
        x.tick(1);
        D.due("line(0, 0)", x.line(0, 0), 11);
        D.bringTalking(x, 2, 3);
        x.hang(3);
        x.tick(8);
        x.set(3, 4);
        x.tick(1);
        D.due("line(2, 0)", x.line(2, 0), 10);
    }
}
